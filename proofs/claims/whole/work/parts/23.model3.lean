theorem dX6_mixedClient_0 : decode cX6_mixedClient 0 = .ok (.lload_n 1, 1) := by decide +kernel
theorem dX6_mixedClient_1 : decode cX6_mixedClient 1 = .ok (.lstore 4, 2) := by decide +kernel
theorem dX6_mixedClient_3 : decode cX6_mixedClient 3 = .ok (.iconst 0, 1) := by decide +kernel
theorem dX6_mixedClient_4 : decode cX6_mixedClient 4 = .ok (.istore 6, 2) := by decide +kernel
theorem dX6_mixedClient_6 : decode cX6_mixedClient 6 = .ok (.iload 6, 2) := by decide +kernel
theorem dX6_mixedClient_8 : decode cX6_mixedClient 8 = .ok (.bipush 12, 2) := by decide +kernel
theorem dX6_mixedClient_10 : decode cX6_mixedClient 10 = .ok (.if_icmp .ge 26, 3) := by decide +kernel
theorem dX6_mixedClient_13 : decode cX6_mixedClient 13 = .ok (.ldc2_w 189, 3) := by decide +kernel
theorem dX6_mixedClient_16 : decode cX6_mixedClient 16 = .ok (.lload 4, 2) := by decide +kernel
theorem dX6_mixedClient_18 : decode cX6_mixedClient 18 = .ok (.lmul, 1) := by decide +kernel
theorem dX6_mixedClient_19 : decode cX6_mixedClient 19 = .ok (.aload_n 0, 1) := by decide +kernel
theorem dX6_mixedClient_20 : decode cX6_mixedClient 20 = .ok (.iload_n 3, 1) := by decide +kernel
theorem dX6_mixedClient_21 : decode cX6_mixedClient 21 = .ok (.iload 6, 2) := by decide +kernel
theorem dX6_mixedClient_23 : decode cX6_mixedClient 23 = .ok (.invokevirtual 44, 3) := by decide +kernel
theorem dX6_mixedClient_26 : decode cX6_mixedClient 26 = .ok (.i2l, 1) := by decide +kernel
theorem dX6_mixedClient_27 : decode cX6_mixedClient 27 = .ok (.ladd, 1) := by decide +kernel
theorem dX6_mixedClient_28 : decode cX6_mixedClient 28 = .ok (.lstore 4, 2) := by decide +kernel
theorem dX6_mixedClient_30 : decode cX6_mixedClient 30 = .ok (.iinc 6 1, 3) := by decide +kernel
theorem dX6_mixedClient_33 : decode cX6_mixedClient 33 = .ok (.goto (-27), 3) := by decide +kernel
theorem dX6_mixedClient_36 : decode cX6_mixedClient 36 = .ok (.iconst 0, 1) := by decide +kernel
theorem dX6_mixedClient_37 : decode cX6_mixedClient 37 = .ok (.istore 6, 2) := by decide +kernel
theorem dX6_mixedClient_39 : decode cX6_mixedClient 39 = .ok (.iload 6, 2) := by decide +kernel
theorem dX6_mixedClient_41 : decode cX6_mixedClient 41 = .ok (.bipush 7, 2) := by decide +kernel
theorem dX6_mixedClient_43 : decode cX6_mixedClient 43 = .ok (.if_icmp .gt 34, 3) := by decide +kernel
theorem dX6_mixedClient_46 : decode cX6_mixedClient 46 = .ok (.ldc2_w 189, 3) := by decide +kernel
theorem dX6_mixedClient_49 : decode cX6_mixedClient 49 = .ok (.lload 4, 2) := by decide +kernel
theorem dX6_mixedClient_51 : decode cX6_mixedClient 51 = .ok (.lmul, 1) := by decide +kernel
theorem dX6_mixedClient_52 : decode cX6_mixedClient 52 = .ok (.aload_n 0, 1) := by decide +kernel
theorem dX6_mixedClient_53 : decode cX6_mixedClient 53 = .ok (.getfield 7, 3) := by decide +kernel
theorem dX6_mixedClient_56 : decode cX6_mixedClient 56 = .ok (.bipush 90, 2) := by decide +kernel
theorem dX6_mixedClient_58 : decode cX6_mixedClient 58 = .ok (.bipush 8, 2) := by decide +kernel
theorem dX6_mixedClient_60 : decode cX6_mixedClient 60 = .ok (.iload_n 3, 1) := by decide +kernel
theorem dX6_mixedClient_61 : decode cX6_mixedClient 61 = .ok (.imul, 1) := by decide +kernel
theorem dX6_mixedClient_62 : decode cX6_mixedClient 62 = .ok (.iadd, 1) := by decide +kernel
theorem dX6_mixedClient_63 : decode cX6_mixedClient 63 = .ok (.iload 6, 2) := by decide +kernel
theorem dX6_mixedClient_65 : decode cX6_mixedClient 65 = .ok (.iadd, 1) := by decide +kernel
theorem dX6_mixedClient_66 : decode cX6_mixedClient 66 = .ok (.iaload, 1) := by decide +kernel
theorem dX6_mixedClient_67 : decode cX6_mixedClient 67 = .ok (.i2l, 1) := by decide +kernel
theorem dX6_mixedClient_68 : decode cX6_mixedClient 68 = .ok (.ladd, 1) := by decide +kernel
theorem dX6_mixedClient_69 : decode cX6_mixedClient 69 = .ok (.lstore 4, 2) := by decide +kernel
theorem dX6_mixedClient_71 : decode cX6_mixedClient 71 = .ok (.iinc 6 1, 3) := by decide +kernel
theorem dX6_mixedClient_74 : decode cX6_mixedClient 74 = .ok (.goto (-35), 3) := by decide +kernel
theorem dX6_mixedClient_77 : decode cX6_mixedClient 77 = .ok (.iconst 0, 1) := by decide +kernel
theorem dX6_mixedClient_78 : decode cX6_mixedClient 78 = .ok (.istore 6, 2) := by decide +kernel
theorem dX6_mixedClient_80 : decode cX6_mixedClient 80 = .ok (.iload 6, 2) := by decide +kernel
theorem dX6_mixedClient_82 : decode cX6_mixedClient 82 = .ok (.bipush 6, 2) := by decide +kernel
theorem dX6_mixedClient_84 : decode cX6_mixedClient 84 = .ok (.if_icmp .ge 35, 3) := by decide +kernel
theorem dX6_mixedClient_87 : decode cX6_mixedClient 87 = .ok (.ldc2_w 189, 3) := by decide +kernel
theorem dX6_mixedClient_90 : decode cX6_mixedClient 90 = .ok (.lload 4, 2) := by decide +kernel
theorem dX6_mixedClient_92 : decode cX6_mixedClient 92 = .ok (.lmul, 1) := by decide +kernel
theorem dX6_mixedClient_93 : decode cX6_mixedClient 93 = .ok (.aload_n 0, 1) := by decide +kernel
theorem dX6_mixedClient_94 : decode cX6_mixedClient 94 = .ok (.getfield 7, 3) := by decide +kernel
theorem dX6_mixedClient_97 : decode cX6_mixedClient 97 = .ok (.sipush 138, 3) := by decide +kernel
theorem dX6_mixedClient_100 : decode cX6_mixedClient 100 = .ok (.bipush 6, 2) := by decide +kernel
theorem dX6_mixedClient_102 : decode cX6_mixedClient 102 = .ok (.iload_n 3, 1) := by decide +kernel
theorem dX6_mixedClient_103 : decode cX6_mixedClient 103 = .ok (.imul, 1) := by decide +kernel
theorem dX6_mixedClient_104 : decode cX6_mixedClient 104 = .ok (.iadd, 1) := by decide +kernel
theorem dX6_mixedClient_105 : decode cX6_mixedClient 105 = .ok (.iload 6, 2) := by decide +kernel
theorem dX6_mixedClient_107 : decode cX6_mixedClient 107 = .ok (.iadd, 1) := by decide +kernel
theorem dX6_mixedClient_108 : decode cX6_mixedClient 108 = .ok (.iaload, 1) := by decide +kernel
theorem dX6_mixedClient_109 : decode cX6_mixedClient 109 = .ok (.i2l, 1) := by decide +kernel
theorem dX6_mixedClient_110 : decode cX6_mixedClient 110 = .ok (.ladd, 1) := by decide +kernel
theorem dX6_mixedClient_111 : decode cX6_mixedClient 111 = .ok (.lstore 4, 2) := by decide +kernel
theorem dX6_mixedClient_113 : decode cX6_mixedClient 113 = .ok (.iinc 6 1, 3) := by decide +kernel
theorem dX6_mixedClient_116 : decode cX6_mixedClient 116 = .ok (.goto (-36), 3) := by decide +kernel
theorem dX6_mixedClient_119 : decode cX6_mixedClient 119 = .ok (.lload 4, 2) := by decide +kernel
theorem dX6_mixedClient_121 : decode cX6_mixedClient 121 = .ok (.lreturn, 1) := by decide +kernel
def bfX6_mixedClient_80 (p1 : Int64) (p2 : Int32) (S : MS) (K80 : Int64 × Int32 → Option (Int64)) (x : Int64 × Int32) : Option (Int64) :=
  match x with
  | (x4, x6) => (if (6 : Int32) ≤ x6 then some x4 else (if okI (((138 : Int32) + ((6 : Int32) * p2)) + x6) 5130 then nm ((((31 : Int64) * x4) + ((S.1 ((((138 : Int32) + ((6 : Int32) * p2)) + x6)).toNatClampNeg)).toInt64)) fun v5 => K80 (v5, (x6 + (1 : Int32))) else none))
def bfX6_mixedClient_39 (p1 : Int64) (p2 : Int32) (S : MS) (K39 : Int64 × Int32 → Option (Int64)) (x : Int64 × Int32) : Option (Int64) :=
  match x with
  | (x4, x6) => (if (7 : Int32) < x6 then iter (bfX6_mixedClient_80 p1 p2 S) FU (x4, (0 : Int32)) else (if okI (((90 : Int32) + ((8 : Int32) * p2)) + x6) 5130 then nm ((((31 : Int64) * x4) + ((S.1 ((((90 : Int32) + ((8 : Int32) * p2)) + x6)).toNatClampNeg)).toInt64)) fun v6 => K39 (v6, (x6 + (1 : Int32))) else none))
def bfX6_mixedClient_6 (p1 : Int64) (p2 : Int32) (S : MS) (K6 : Int64 × Int32 → Option (Int64)) (x : Int64 × Int32) : Option (Int64) :=
  match x with
  | (x4, x6) => (if (12 : Int32) ≤ x6 then iter (bfX6_mixedClient_39 p1 p2 S) FU (x4, (0 : Int32)) else ob (fX6_of p2 x6 S) fun u7 => nm ((((31 : Int64) * x4) + (u7).toInt64)) fun v8 => K6 (v8, (x6 + (1 : Int32))))
def fX6_mixedClient (p1 : Int64) (p2 : Int32) (S : MS) : Option (Int64) :=
  iter (bfX6_mixedClient_6 p1 p2 S) FU (p1, (0 : Int32))
set_option maxHeartbeats 4000000 in
set_option maxRecDepth 100000 in
theorem kX6_mixedClient (l : Launch) (D : va_G) (cI cS : ClassId) (aM : Nat → Nat) (p1 : Int64) (p2 : Int32) (S : MS) {q : Int64} (h : fX6_mixedClient p1 p2 S = some q) : Mc l D (tyL cI cS) false yX6_mixedClient cX6_mixedClient 7 (some .long) 2 [.ref (aM 0), .long p1, .int p2] (wM cI aM S) (some (.long q)) (wM cI aM S) := by
  refine Mc_of RX6 (by decide +kernel) rfl wc_X6_mixedClient (Nat.le_of_ble_eq_true rfl) ?_
  intro p e s m args below meth c A Q ls C hA hz hP hD hS hl RET
  have RETh : ∀ {pc : Nat} {ls : Array Slot} {H : Heap} {locs : List Loc} {x : Int64} , decode cX6_mixedClient pc = .ok (.lreturn, 1) → some x = some q → va_P D vwCl (wM cI aM S) H → va_D A (wM cI aM S) → va_S A s.heap H locs → W p l e (rmL 2) s m args below meth c H locs 0 0 Q (F0 m pc ls [.long x]) := by
    intro pc ls H locs x hd h hP hD hS; cases h; exact RET (x_lret C hd) hP hD hS
  have B80 : ∀ (n : Nat) (x : Int64 × Int32), iter (bfX6_mixedClient_80 p1 p2 S) n x = some q → (match x with | (x4, x6) => ∀ (H : Heap) (locs : List Loc) (ls : Array Slot), va_P D vwCl (wM cI aM S) H → va_D A (wM cI aM S) → va_S A s.heap H locs → lv_has ls 7 [(0, .ref (aM 0)), (3, .int p2), (4, .long x4), (6, .int x6)] → W p l e (rmL 2) s m args below meth c H locs 0 0 Q (F0 m 80 ls [])) := by
    refine iter_ind (fun x : Int64 × Int32 => (match x with | (x4, x6) => ∀ (H : Heap) (locs : List Loc) (ls : Array Slot), va_P D vwCl (wM cI aM S) H → va_D A (wM cI aM S) → va_S A s.heap H locs → lv_has ls 7 [(0, .ref (aM 0)), (3, .int p2), (4, .long x4), (6, .int x6)] → W p l e (rmL 2) s m args below meth c H locs 0 0 Q (F0 m 80 ls []))) ?_
    intro K80 ih80 x h
    obtain ⟨x4, x6⟩ := x
    intro H locs ls hP hD hS hl
    refine x_iload C dX6_mixedClient_80 hl 3 rfl ?_
    refine x_bipush (v := (6 : Int32)) C dX6_mixedClient_82 (by decide) ?_
    refine x_icmp_ge (tgt := 119) C h dX6_mixedClient_84 (by decide) (fun h => ?_) (fun h => ?_)
    · refine x_lload C dX6_mixedClient_119 hl 2 rfl ?_
      exact RETh dX6_mixedClient_121 h hP hD hS
    · refine x_ldc2 C wq_X6_189 dX6_mixedClient_87 ?_
      refine x_lload C dX6_mixedClient_90 hl 2 rfl ?_
      refine x_lmul C dX6_mixedClient_92 ?_
      refine x_aload_n C dX6_mixedClient_93 rfl hl 0 rfl ?_
      refine x_get C inX6 hP 0 rfl rfl 0 (by decide) wf_X6_7 rfl dX6_mixedClient_94 ?_
      refine x_sipush (v := (138 : Int32)) C dX6_mixedClient_97 (by decide) ?_
      refine x_bipush (v := (6 : Int32)) C dX6_mixedClient_100 (by decide) ?_
      refine x_iload_n C dX6_mixedClient_102 rfl hl 1 rfl ?_
      refine x_imul C dX6_mixedClient_103 ?_
      refine x_iadd C dX6_mixedClient_104 ?_
      refine x_iload C dX6_mixedClient_105 hl 3 rfl ?_
      refine x_iadd C dX6_mixedClient_107 ?_
      refine x_iald C h hP 1 rfl (t0 := 0) rfl dX6_mixedClient_108 (fun h => ?_)
      refine x_i2l C dX6_mixedClient_109 ?_
      refine x_ladd C dX6_mixedClient_110 ?_
      refine x_nml h (fun v5 h => ?_)
      refine x_lstore (lv' := [(4, .long v5), (0, .ref (aM 0)), (3, .int p2), (6, .int x6)]) C dX6_mixedClient_111 hl (by decide) rfl (fun ls hl => ?_)
      refine x_iinc (v := (x6 + (1 : Int32))) (lv' := [(6, .int (x6 + (1 : Int32))), (4, .long v5), (0, .ref (aM 0)), (3, .int p2)]) C dX6_mixedClient_113 hl (k := 3) rfl rfl (by decide) rfl (fun ls hl => ?_)
      refine x_goto (tgt := 80) C dX6_mixedClient_116 (by decide) ?_
      exact ih80 _ h _ _ _ hP hD hS (lv_sub hl [2, 3, 1, 0] rfl)
  have B39 : ∀ (n : Nat) (x : Int64 × Int32), iter (bfX6_mixedClient_39 p1 p2 S) n x = some q → (match x with | (x4, x6) => ∀ (H : Heap) (locs : List Loc) (ls : Array Slot), va_P D vwCl (wM cI aM S) H → va_D A (wM cI aM S) → va_S A s.heap H locs → lv_has ls 7 [(0, .ref (aM 0)), (3, .int p2), (4, .long x4), (6, .int x6)] → W p l e (rmL 2) s m args below meth c H locs 0 0 Q (F0 m 39 ls [])) := by
    refine iter_ind (fun x : Int64 × Int32 => (match x with | (x4, x6) => ∀ (H : Heap) (locs : List Loc) (ls : Array Slot), va_P D vwCl (wM cI aM S) H → va_D A (wM cI aM S) → va_S A s.heap H locs → lv_has ls 7 [(0, .ref (aM 0)), (3, .int p2), (4, .long x4), (6, .int x6)] → W p l e (rmL 2) s m args below meth c H locs 0 0 Q (F0 m 39 ls []))) ?_
    intro K39 ih39 x h
    obtain ⟨x4, x6⟩ := x
    intro H locs ls hP hD hS hl
    refine x_iload C dX6_mixedClient_39 hl 3 rfl ?_
    refine x_bipush (v := (7 : Int32)) C dX6_mixedClient_41 (by decide) ?_
    refine x_icmp_gt (tgt := 77) C h dX6_mixedClient_43 (by decide) (fun h => ?_) (fun h => ?_)
    · refine x_iconst (v := (0 : Int32)) C dX6_mixedClient_77 (by decide) ?_
      refine x_istore (lv' := [(6, .int (0 : Int32)), (0, .ref (aM 0)), (3, .int p2), (4, .long x4)]) C dX6_mixedClient_78 hl (by decide) rfl (fun ls hl => ?_)
      exact B80 FU _ h _ _ _ hP hD hS (lv_sub hl [1, 2, 3, 0] rfl)
    · refine x_ldc2 C wq_X6_189 dX6_mixedClient_46 ?_
      refine x_lload C dX6_mixedClient_49 hl 2 rfl ?_
      refine x_lmul C dX6_mixedClient_51 ?_
      refine x_aload_n C dX6_mixedClient_52 rfl hl 0 rfl ?_
      refine x_get C inX6 hP 0 rfl rfl 0 (by decide) wf_X6_7 rfl dX6_mixedClient_53 ?_
      refine x_bipush (v := (90 : Int32)) C dX6_mixedClient_56 (by decide) ?_
      refine x_bipush (v := (8 : Int32)) C dX6_mixedClient_58 (by decide) ?_
      refine x_iload_n C dX6_mixedClient_60 rfl hl 1 rfl ?_
      refine x_imul C dX6_mixedClient_61 ?_
      refine x_iadd C dX6_mixedClient_62 ?_
      refine x_iload C dX6_mixedClient_63 hl 3 rfl ?_
      refine x_iadd C dX6_mixedClient_65 ?_
      refine x_iald C h hP 1 rfl (t0 := 0) rfl dX6_mixedClient_66 (fun h => ?_)
      refine x_i2l C dX6_mixedClient_67 ?_
      refine x_ladd C dX6_mixedClient_68 ?_
      refine x_nml h (fun v6 h => ?_)
      refine x_lstore (lv' := [(4, .long v6), (0, .ref (aM 0)), (3, .int p2), (6, .int x6)]) C dX6_mixedClient_69 hl (by decide) rfl (fun ls hl => ?_)
      refine x_iinc (v := (x6 + (1 : Int32))) (lv' := [(6, .int (x6 + (1 : Int32))), (4, .long v6), (0, .ref (aM 0)), (3, .int p2)]) C dX6_mixedClient_71 hl (k := 3) rfl rfl (by decide) rfl (fun ls hl => ?_)
      refine x_goto (tgt := 39) C dX6_mixedClient_74 (by decide) ?_
      exact ih39 _ h _ _ _ hP hD hS (lv_sub hl [2, 3, 1, 0] rfl)
  have B6 : ∀ (n : Nat) (x : Int64 × Int32), iter (bfX6_mixedClient_6 p1 p2 S) n x = some q → (match x with | (x4, x6) => ∀ (H : Heap) (locs : List Loc) (ls : Array Slot), va_P D vwCl (wM cI aM S) H → va_D A (wM cI aM S) → va_S A s.heap H locs → lv_has ls 7 [(0, .ref (aM 0)), (3, .int p2), (4, .long x4), (6, .int x6)] → W p l e (rmL 2) s m args below meth c H locs 0 0 Q (F0 m 6 ls [])) := by
    refine iter_ind (fun x : Int64 × Int32 => (match x with | (x4, x6) => ∀ (H : Heap) (locs : List Loc) (ls : Array Slot), va_P D vwCl (wM cI aM S) H → va_D A (wM cI aM S) → va_S A s.heap H locs → lv_has ls 7 [(0, .ref (aM 0)), (3, .int p2), (4, .long x4), (6, .int x6)] → W p l e (rmL 2) s m args below meth c H locs 0 0 Q (F0 m 6 ls []))) ?_
    intro K6 ih6 x h
    obtain ⟨x4, x6⟩ := x
    intro H locs ls hP hD hS hl
    refine x_iload C dX6_mixedClient_6 hl 3 rfl ?_
    refine x_bipush (v := (12 : Int32)) C dX6_mixedClient_8 (by decide) ?_
    refine x_icmp_ge (tgt := 36) C h dX6_mixedClient_10 (by decide) (fun h => ?_) (fun h => ?_)
    · refine x_iconst (v := (0 : Int32)) C dX6_mixedClient_36 (by decide) ?_
      refine x_istore (lv' := [(6, .int (0 : Int32)), (0, .ref (aM 0)), (3, .int p2), (4, .long x4)]) C dX6_mixedClient_37 hl (by decide) rfl (fun ls hl => ?_)
      exact B39 FU _ h _ _ _ hP hD hS (lv_sub hl [1, 2, 3, 0] rfl)
    · refine x_ldc2 C wq_X6_189 dX6_mixedClient_13 ?_
      refine x_lload C dX6_mixedClient_16 hl 2 rfl ?_
      refine x_lmul C dX6_mixedClient_18 ?_
      refine x_aload_n C dX6_mixedClient_19 rfl hl 0 rfl ?_
      refine x_iload_n C dX6_mixedClient_20 rfl hl 1 rfl ?_
      refine x_iload C dX6_mixedClient_21 hl 3 rfl ?_
      obtain ⟨u7, hu7, h⟩ := ob_some h
      refine x_callV (As := [.int _, .int _]) (n := 2) C (kX6_of l D cI cS aM _ _ _ hu7) (fun hh => nomatch hh) wm_X6_44 wi_X6_of we_X6_of wz_X6 wc_X6_of (by decide +kernel) rfl hP hD hS hA 0 3 rfl rfl rfl hl.1 dX6_mixedClient_23 rfl (Nat.le_of_ble_eq_true rfl) ⟨Nat.le_of_ble_eq_true rfl, Nat.le_of_ble_eq_true rfl⟩ ⟨Nat.zero_le _, Nat.zero_le _⟩ (fun H locs hP hD hS => ?_)
      refine x_i2l C dX6_mixedClient_26 ?_
      refine x_ladd C dX6_mixedClient_27 ?_
      refine x_nml h (fun v8 h => ?_)
      refine x_lstore (lv' := [(4, .long v8), (0, .ref (aM 0)), (3, .int p2), (6, .int x6)]) C dX6_mixedClient_28 hl (by decide) rfl (fun ls hl => ?_)
      refine x_iinc (v := (x6 + (1 : Int32))) (lv' := [(6, .int (x6 + (1 : Int32))), (4, .long v8), (0, .ref (aM 0)), (3, .int p2)]) C dX6_mixedClient_30 hl (k := 3) rfl rfl (by decide) rfl (fun ls hl => ?_)
      refine x_goto (tgt := 6) C dX6_mixedClient_33 (by decide) ?_
      exact ih6 _ h _ _ _ hP hD hS (lv_sub hl [2, 3, 1, 0] rfl)
  refine x_lload_n C dX6_mixedClient_0 rfl hl 1 rfl ?_
  refine x_lstore (lv' := [(4, .long p1), (0, .ref (aM 0)), (1, .long p1), (3, .int p2)]) C dX6_mixedClient_1 hl (by decide) rfl (fun ls hl => ?_)
  refine x_iconst (v := (0 : Int32)) C dX6_mixedClient_3 (by decide) ?_
  refine x_istore (lv' := [(6, .int (0 : Int32)), (4, .long p1), (0, .ref (aM 0)), (1, .long p1), (3, .int p2)]) C dX6_mixedClient_4 hl (by decide) rfl (fun ls hl => ?_)
  exact B6 FU _ h _ _ _ hP hD hS (lv_sub hl [2, 4, 1, 0] rfl)
theorem dX6_propertyOf_0 : decode cX6_propertyOf 0 = .ok (.iload_n 2, 1) := by decide +kernel
theorem dX6_propertyOf_1 : decode cX6_propertyOf 1 = .ok (.tableswitch 116 0 3 #[31, 44, 57, 70], 31) := by decide +kernel
theorem dX6_propertyOf_32 : decode cX6_propertyOf 32 = .ok (.aload_n 0, 1) := by decide +kernel
theorem dX6_propertyOf_33 : decode cX6_propertyOf 33 = .ok (.getfield 7, 3) := by decide +kernel
theorem dX6_propertyOf_36 : decode cX6_propertyOf 36 = .ok (.aload_n 0, 1) := by decide +kernel
theorem dX6_propertyOf_37 : decode cX6_propertyOf 37 = .ok (.iload_n 1, 1) := by decide +kernel
theorem dX6_propertyOf_38 : decode cX6_propertyOf 38 = .ok (.invokevirtual 48, 3) := by decide +kernel
theorem dX6_propertyOf_41 : decode cX6_propertyOf 41 = .ok (.iconst 1, 1) := by decide +kernel
theorem dX6_propertyOf_42 : decode cX6_propertyOf 42 = .ok (.iadd, 1) := by decide +kernel
theorem dX6_propertyOf_43 : decode cX6_propertyOf 43 = .ok (.iaload, 1) := by decide +kernel
theorem dX6_propertyOf_44 : decode cX6_propertyOf 44 = .ok (.ireturn, 1) := by decide +kernel
theorem dX6_propertyOf_45 : decode cX6_propertyOf 45 = .ok (.aload_n 0, 1) := by decide +kernel
theorem dX6_propertyOf_46 : decode cX6_propertyOf 46 = .ok (.getfield 7, 3) := by decide +kernel
theorem dX6_propertyOf_49 : decode cX6_propertyOf 49 = .ok (.aload_n 0, 1) := by decide +kernel
theorem dX6_propertyOf_50 : decode cX6_propertyOf 50 = .ok (.iload_n 1, 1) := by decide +kernel
theorem dX6_propertyOf_51 : decode cX6_propertyOf 51 = .ok (.invokevirtual 48, 3) := by decide +kernel
theorem dX6_propertyOf_54 : decode cX6_propertyOf 54 = .ok (.iconst 2, 1) := by decide +kernel
theorem dX6_propertyOf_55 : decode cX6_propertyOf 55 = .ok (.iadd, 1) := by decide +kernel
theorem dX6_propertyOf_56 : decode cX6_propertyOf 56 = .ok (.iaload, 1) := by decide +kernel
theorem dX6_propertyOf_57 : decode cX6_propertyOf 57 = .ok (.ireturn, 1) := by decide +kernel
theorem dX6_propertyOf_58 : decode cX6_propertyOf 58 = .ok (.aload_n 0, 1) := by decide +kernel
theorem dX6_propertyOf_59 : decode cX6_propertyOf 59 = .ok (.getfield 7, 3) := by decide +kernel
theorem dX6_propertyOf_62 : decode cX6_propertyOf 62 = .ok (.aload_n 0, 1) := by decide +kernel
theorem dX6_propertyOf_63 : decode cX6_propertyOf 63 = .ok (.iload_n 1, 1) := by decide +kernel
theorem dX6_propertyOf_64 : decode cX6_propertyOf 64 = .ok (.invokevirtual 48, 3) := by decide +kernel
theorem dX6_propertyOf_67 : decode cX6_propertyOf 67 = .ok (.iconst 3, 1) := by decide +kernel
theorem dX6_propertyOf_68 : decode cX6_propertyOf 68 = .ok (.iadd, 1) := by decide +kernel
theorem dX6_propertyOf_69 : decode cX6_propertyOf 69 = .ok (.iaload, 1) := by decide +kernel
theorem dX6_propertyOf_70 : decode cX6_propertyOf 70 = .ok (.ireturn, 1) := by decide +kernel
theorem dX6_propertyOf_71 : decode cX6_propertyOf 71 = .ok (.aload_n 0, 1) := by decide +kernel
theorem dX6_propertyOf_72 : decode cX6_propertyOf 72 = .ok (.getfield 7, 3) := by decide +kernel
theorem dX6_propertyOf_75 : decode cX6_propertyOf 75 = .ok (.aload_n 0, 1) := by decide +kernel
theorem dX6_propertyOf_76 : decode cX6_propertyOf 76 = .ok (.iload_n 1, 1) := by decide +kernel
theorem dX6_propertyOf_77 : decode cX6_propertyOf 77 = .ok (.invokevirtual 48, 3) := by decide +kernel
theorem dX6_propertyOf_80 : decode cX6_propertyOf 80 = .ok (.iconst 4, 1) := by decide +kernel
theorem dX6_propertyOf_81 : decode cX6_propertyOf 81 = .ok (.iadd, 1) := by decide +kernel
theorem dX6_propertyOf_82 : decode cX6_propertyOf 82 = .ok (.iaload, 1) := by decide +kernel
theorem dX6_propertyOf_83 : decode cX6_propertyOf 83 = .ok (.iconst 1, 1) := by decide +kernel
theorem dX6_propertyOf_84 : decode cX6_propertyOf 84 = .ok (.if_icmp .ne 7, 3) := by decide +kernel
theorem dX6_propertyOf_87 : decode cX6_propertyOf 87 = .ok (.iconst 0, 1) := by decide +kernel
theorem dX6_propertyOf_88 : decode cX6_propertyOf 88 = .ok (.goto 28, 3) := by decide +kernel
theorem dX6_propertyOf_91 : decode cX6_propertyOf 91 = .ok (.aload_n 0, 1) := by decide +kernel
theorem dX6_propertyOf_92 : decode cX6_propertyOf 92 = .ok (.getfield 7, 3) := by decide +kernel
theorem dX6_propertyOf_95 : decode cX6_propertyOf 95 = .ok (.aload_n 0, 1) := by decide +kernel
theorem dX6_propertyOf_96 : decode cX6_propertyOf 96 = .ok (.aload_n 0, 1) := by decide +kernel
theorem dX6_propertyOf_97 : decode cX6_propertyOf 97 = .ok (.getfield 7, 3) := by decide +kernel
theorem dX6_propertyOf_100 : decode cX6_propertyOf 100 = .ok (.aload_n 0, 1) := by decide +kernel
theorem dX6_propertyOf_101 : decode cX6_propertyOf 101 = .ok (.iload_n 1, 1) := by decide +kernel
theorem dX6_propertyOf_102 : decode cX6_propertyOf 102 = .ok (.invokevirtual 48, 3) := by decide +kernel
theorem dX6_propertyOf_105 : decode cX6_propertyOf 105 = .ok (.bipush 7, 2) := by decide +kernel
theorem dX6_propertyOf_107 : decode cX6_propertyOf 107 = .ok (.iadd, 1) := by decide +kernel
theorem dX6_propertyOf_108 : decode cX6_propertyOf 108 = .ok (.iaload, 1) := by decide +kernel
theorem dX6_propertyOf_109 : decode cX6_propertyOf 109 = .ok (.invokevirtual 74, 3) := by decide +kernel
theorem dX6_propertyOf_112 : decode cX6_propertyOf 112 = .ok (.bipush 7, 2) := by decide +kernel
theorem dX6_propertyOf_114 : decode cX6_propertyOf 114 = .ok (.iadd, 1) := by decide +kernel
theorem dX6_propertyOf_115 : decode cX6_propertyOf 115 = .ok (.iaload, 1) := by decide +kernel
theorem dX6_propertyOf_116 : decode cX6_propertyOf 116 = .ok (.ireturn, 1) := by decide +kernel
theorem dX6_propertyOf_117 : decode cX6_propertyOf 117 = .ok (.aload_n 0, 1) := by decide +kernel
theorem dX6_propertyOf_118 : decode cX6_propertyOf 118 = .ok (.getfield 7, 3) := by decide +kernel
theorem dX6_propertyOf_121 : decode cX6_propertyOf 121 = .ok (.aload_n 0, 1) := by decide +kernel
theorem dX6_propertyOf_122 : decode cX6_propertyOf 122 = .ok (.iload_n 1, 1) := by decide +kernel
theorem dX6_propertyOf_123 : decode cX6_propertyOf 123 = .ok (.invokevirtual 48, 3) := by decide +kernel
theorem dX6_propertyOf_126 : decode cX6_propertyOf 126 = .ok (.iconst 5, 1) := by decide +kernel
theorem dX6_propertyOf_127 : decode cX6_propertyOf 127 = .ok (.iadd, 1) := by decide +kernel
theorem dX6_propertyOf_128 : decode cX6_propertyOf 128 = .ok (.iaload, 1) := by decide +kernel
theorem dX6_propertyOf_129 : decode cX6_propertyOf 129 = .ok (.ireturn, 1) := by decide +kernel
def bfX6_propertyOf_116 (p1 : Int32) (p2 : Int32) (S : MS) (s0 : Int32) : Option (Int32) :=
  some s0
def fX6_propertyOf (p1 : Int32) (p2 : Int32) (S : MS) : Option (Int32) :=
  (if p2 = (0 : Int32) then ob (fX6_row p1 S) fun u14 => (if okI (u14 + (1 : Int32)) 5130 then some (S.1 ((u14 + (1 : Int32))).toNatClampNeg) else none) else (if p2 = (1 : Int32) then ob (fX6_row p1 S) fun u13 => (if okI (u13 + (2 : Int32)) 5130 then some (S.1 ((u13 + (2 : Int32))).toNatClampNeg) else none) else (if p2 = (2 : Int32) then ob (fX6_row p1 S) fun u12 => (if okI (u12 + (3 : Int32)) 5130 then some (S.1 ((u12 + (3 : Int32))).toNatClampNeg) else none) else (if p2 = (3 : Int32) then ob (fX6_row p1 S) fun u9 => (if okI (u9 + (4 : Int32)) 5130 then (if (S.1 ((u9 + (4 : Int32))).toNatClampNeg) = (1 : Int32) then bfX6_propertyOf_116 p1 p2 S  ((0 : Int32)) else ob (fX6_row p1 S) fun u10 => (if okI (u10 + (7 : Int32)) 5130 then ob (fX6_slot ((S.1 ((u10 + (7 : Int32))).toNatClampNeg)) S) fun u11 => (if okI (u11 + (7 : Int32)) 5130 then bfX6_propertyOf_116 p1 p2 S  ((S.1 ((u11 + (7 : Int32))).toNatClampNeg)) else none) else none)) else none) else ob (fX6_row p1 S) fun u8 => (if okI (u8 + (5 : Int32)) 5130 then some (S.1 ((u8 + (5 : Int32))).toNatClampNeg) else none)))))
set_option maxHeartbeats 4000000 in
set_option maxRecDepth 100000 in
theorem kX6_propertyOf (l : Launch) (D : va_G) (cI cS : ClassId) (aM : Nat → Nat) (p1 : Int32) (p2 : Int32) (S : MS) {q : Int32} (h : fX6_propertyOf p1 p2 S = some q) : Mc l D (tyL cI cS) false yX6_propertyOf cX6_propertyOf 3 (some .int) 2 [.ref (aM 0), .int p1, .int p2] (wM cI aM S) (some (.int q)) (wM cI aM S) := by
  refine Mc_of RX6 (by decide +kernel) rfl wc_X6_propertyOf (Nat.le_of_ble_eq_true rfl) ?_
  intro p e s m args below meth c A Q ls C hA hz hP hD hS hl RET
  have RETh : ∀ {pc : Nat} {ls : Array Slot} {H : Heap} {locs : List Loc} {x : Int32} , decode cX6_propertyOf pc = .ok (.ireturn, 1) → some x = some q → va_P D vwCl (wM cI aM S) H → va_D A (wM cI aM S) → va_S A s.heap H locs → W p l e (rmL 2) s m args below meth c H locs 0 0 Q (F0 m pc ls [.int x]) := by
    intro pc ls H locs x hd h hP hD hS; cases h; exact RET (x_iret C hd) hP hD hS
  have B116 : ∀ (s0 : Int32), bfX6_propertyOf_116 p1 p2 S s0 = some q → ∀ (H : Heap) (locs : List Loc) (ls : Array Slot), va_P D vwCl (wM cI aM S) H → va_D A (wM cI aM S) → va_S A s.heap H locs → lv_has ls 3 [] → W p l e (rmL 2) s m args below meth c H locs 0 0 Q (F0 m 116 ls [.int s0]) := by
    intro s0 h H locs ls hP hD hS hl
    exact RETh dX6_propertyOf_116 h hP hD hS
  refine x_iload_n C dX6_propertyOf_0 rfl hl 2 rfl ?_
  rcases x_ifc h with ⟨hc, h⟩ | ⟨hc0, h⟩
  · refine x_tabIn (tgt := 32) C dX6_propertyOf_1 (by rw [hc]; decide) (by rw [hc]; decide) (by rw [hc]; rfl) (by decide) ?_
    refine x_aload_n C dX6_propertyOf_32 rfl hl 0 rfl ?_
    refine x_get C inX6 hP 0 rfl rfl 0 (by decide) wf_X6_7 rfl dX6_propertyOf_33 ?_
    refine x_aload_n C dX6_propertyOf_36 rfl hl 0 rfl ?_
    refine x_iload_n C dX6_propertyOf_37 rfl hl 1 rfl ?_
    obtain ⟨u14, hu14, h⟩ := ob_some h
    refine x_callV (As := [.int _]) (n := 1) C (kX6_row l D cI cS aM _ _ hu14) (fun hh => nomatch hh) wm_X6_48 wi_X6_row we_X6_row wz_X6 wc_X6_row (by decide +kernel) rfl hP hD hS hA 0 3 rfl rfl rfl hl.1 dX6_propertyOf_38 rfl (Nat.le_of_ble_eq_true rfl) ⟨Nat.le_of_ble_eq_true rfl, Nat.le_of_ble_eq_true rfl⟩ ⟨Nat.zero_le _, Nat.zero_le _⟩ (fun H locs hP hD hS => ?_)
    refine x_iconst (v := (1 : Int32)) C dX6_propertyOf_41 (by decide) ?_
    refine x_iadd C dX6_propertyOf_42 ?_
    refine x_iald C h hP 1 rfl (t0 := 0) rfl dX6_propertyOf_43 (fun h => ?_)
    exact RETh dX6_propertyOf_44 h hP hD hS
  ·
    rcases x_ifc h with ⟨hc, h⟩ | ⟨hc1, h⟩
    · refine x_tabIn (tgt := 45) C dX6_propertyOf_1 (by rw [hc]; decide) (by rw [hc]; decide) (by rw [hc]; rfl) (by decide) ?_
      refine x_aload_n C dX6_propertyOf_45 rfl hl 0 rfl ?_
      refine x_get C inX6 hP 0 rfl rfl 0 (by decide) wf_X6_7 rfl dX6_propertyOf_46 ?_
      refine x_aload_n C dX6_propertyOf_49 rfl hl 0 rfl ?_
      refine x_iload_n C dX6_propertyOf_50 rfl hl 1 rfl ?_
      obtain ⟨u13, hu13, h⟩ := ob_some h
      refine x_callV (As := [.int _]) (n := 1) C (kX6_row l D cI cS aM _ _ hu13) (fun hh => nomatch hh) wm_X6_48 wi_X6_row we_X6_row wz_X6 wc_X6_row (by decide +kernel) rfl hP hD hS hA 0 3 rfl rfl rfl hl.1 dX6_propertyOf_51 rfl (Nat.le_of_ble_eq_true rfl) ⟨Nat.le_of_ble_eq_true rfl, Nat.le_of_ble_eq_true rfl⟩ ⟨Nat.zero_le _, Nat.zero_le _⟩ (fun H locs hP hD hS => ?_)
      refine x_iconst (v := (2 : Int32)) C dX6_propertyOf_54 (by decide) ?_
      refine x_iadd C dX6_propertyOf_55 ?_
      refine x_iald C h hP 1 rfl (t0 := 0) rfl dX6_propertyOf_56 (fun h => ?_)
      exact RETh dX6_propertyOf_57 h hP hD hS
    ·
      rcases x_ifc h with ⟨hc, h⟩ | ⟨hc2, h⟩
      · refine x_tabIn (tgt := 58) C dX6_propertyOf_1 (by rw [hc]; decide) (by rw [hc]; decide) (by rw [hc]; rfl) (by decide) ?_
        refine x_aload_n C dX6_propertyOf_58 rfl hl 0 rfl ?_
        refine x_get C inX6 hP 0 rfl rfl 0 (by decide) wf_X6_7 rfl dX6_propertyOf_59 ?_
        refine x_aload_n C dX6_propertyOf_62 rfl hl 0 rfl ?_
        refine x_iload_n C dX6_propertyOf_63 rfl hl 1 rfl ?_
        obtain ⟨u12, hu12, h⟩ := ob_some h
        refine x_callV (As := [.int _]) (n := 1) C (kX6_row l D cI cS aM _ _ hu12) (fun hh => nomatch hh) wm_X6_48 wi_X6_row we_X6_row wz_X6 wc_X6_row (by decide +kernel) rfl hP hD hS hA 0 3 rfl rfl rfl hl.1 dX6_propertyOf_64 rfl (Nat.le_of_ble_eq_true rfl) ⟨Nat.le_of_ble_eq_true rfl, Nat.le_of_ble_eq_true rfl⟩ ⟨Nat.zero_le _, Nat.zero_le _⟩ (fun H locs hP hD hS => ?_)
        refine x_iconst (v := (3 : Int32)) C dX6_propertyOf_67 (by decide) ?_
        refine x_iadd C dX6_propertyOf_68 ?_
        refine x_iald C h hP 1 rfl (t0 := 0) rfl dX6_propertyOf_69 (fun h => ?_)
        exact RETh dX6_propertyOf_70 h hP hD hS
      ·
        rcases x_ifc h with ⟨hc, h⟩ | ⟨hc3, h⟩
        · refine x_tabIn (tgt := 71) C dX6_propertyOf_1 (by rw [hc]; decide) (by rw [hc]; decide) (by rw [hc]; rfl) (by decide) ?_
          refine x_aload_n C dX6_propertyOf_71 rfl hl 0 rfl ?_
          refine x_get C inX6 hP 0 rfl rfl 0 (by decide) wf_X6_7 rfl dX6_propertyOf_72 ?_
          refine x_aload_n C dX6_propertyOf_75 rfl hl 0 rfl ?_
          refine x_iload_n C dX6_propertyOf_76 rfl hl 1 rfl ?_
          obtain ⟨u9, hu9, h⟩ := ob_some h
          refine x_callV (As := [.int _]) (n := 1) C (kX6_row l D cI cS aM _ _ hu9) (fun hh => nomatch hh) wm_X6_48 wi_X6_row we_X6_row wz_X6 wc_X6_row (by decide +kernel) rfl hP hD hS hA 0 3 rfl rfl rfl hl.1 dX6_propertyOf_77 rfl (Nat.le_of_ble_eq_true rfl) ⟨Nat.le_of_ble_eq_true rfl, Nat.le_of_ble_eq_true rfl⟩ ⟨Nat.zero_le _, Nat.zero_le _⟩ (fun H locs hP hD hS => ?_)
          refine x_iconst (v := (4 : Int32)) C dX6_propertyOf_80 (by decide) ?_
          refine x_iadd C dX6_propertyOf_81 ?_
          refine x_iald C h hP 1 rfl (t0 := 0) rfl dX6_propertyOf_82 (fun h => ?_)
          refine x_iconst (v := (1 : Int32)) C dX6_propertyOf_83 (by decide) ?_
          refine x_icmp_ne (tgt := 91) C h dX6_propertyOf_84 (by decide) (fun h => ?_) (fun h => ?_)
          · refine x_aload_n C dX6_propertyOf_91 rfl hl 0 rfl ?_
            refine x_get C inX6 hP 0 rfl rfl 0 (by decide) wf_X6_7 rfl dX6_propertyOf_92 ?_
            refine x_aload_n C dX6_propertyOf_95 rfl hl 0 rfl ?_
            refine x_aload_n C dX6_propertyOf_96 rfl hl 0 rfl ?_
            refine x_get C inX6 hP 0 rfl rfl 0 (by decide) wf_X6_7 rfl dX6_propertyOf_97 ?_
            refine x_aload_n C dX6_propertyOf_100 rfl hl 0 rfl ?_
            refine x_iload_n C dX6_propertyOf_101 rfl hl 1 rfl ?_
            obtain ⟨u10, hu10, h⟩ := ob_some h
            refine x_callV (As := [.int _]) (n := 1) C (kX6_row l D cI cS aM _ _ hu10) (fun hh => nomatch hh) wm_X6_48 wi_X6_row we_X6_row wz_X6 wc_X6_row (by decide +kernel) rfl hP hD hS hA 0 3 rfl rfl rfl hl.1 dX6_propertyOf_102 rfl (Nat.le_of_ble_eq_true rfl) ⟨Nat.le_of_ble_eq_true rfl, Nat.le_of_ble_eq_true rfl⟩ ⟨Nat.zero_le _, Nat.zero_le _⟩ (fun H locs hP hD hS => ?_)
            refine x_bipush (v := (7 : Int32)) C dX6_propertyOf_105 (by decide) ?_
            refine x_iadd C dX6_propertyOf_107 ?_
            refine x_iald C h hP 1 rfl (t0 := 0) rfl dX6_propertyOf_108 (fun h => ?_)
            obtain ⟨u11, hu11, h⟩ := ob_some h
            refine x_callV (As := [.int _]) (n := 1) C (kX6_slot l D cI cS aM _ _ hu11) (fun hh => nomatch hh) wm_X6_74 wi_X6_slot we_X6_slot wz_X6 wc_X6_slot (by decide +kernel) rfl hP hD hS hA 0 3 rfl rfl rfl hl.1 dX6_propertyOf_109 rfl (Nat.le_of_ble_eq_true rfl) ⟨Nat.le_of_ble_eq_true rfl, Nat.le_of_ble_eq_true rfl⟩ ⟨Nat.zero_le _, Nat.zero_le _⟩ (fun H locs hP hD hS => ?_)
            refine x_bipush (v := (7 : Int32)) C dX6_propertyOf_112 (by decide) ?_
            refine x_iadd C dX6_propertyOf_114 ?_
            refine x_iald C h hP 1 rfl (t0 := 0) rfl dX6_propertyOf_115 (fun h => ?_)
            exact B116 _ h _ _ _ hP hD hS (lv_sub hl [] rfl)
          · refine x_iconst (v := (0 : Int32)) C dX6_propertyOf_87 (by decide) ?_
            refine x_goto (tgt := 116) C dX6_propertyOf_88 (by decide) ?_
            exact B116 _ h _ _ _ hP hD hS (lv_sub hl [] rfl)
        · refine x_switch (tgt := 117) C dX6_propertyOf_1 (x_tabO0_3 hc0 hc1 hc2 hc3) (by decide) ?_
          refine x_aload_n C dX6_propertyOf_117 rfl hl 0 rfl ?_
          refine x_get C inX6 hP 0 rfl rfl 0 (by decide) wf_X6_7 rfl dX6_propertyOf_118 ?_
          refine x_aload_n C dX6_propertyOf_121 rfl hl 0 rfl ?_
          refine x_iload_n C dX6_propertyOf_122 rfl hl 1 rfl ?_
          obtain ⟨u8, hu8, h⟩ := ob_some h
          refine x_callV (As := [.int _]) (n := 1) C (kX6_row l D cI cS aM _ _ hu8) (fun hh => nomatch hh) wm_X6_48 wi_X6_row we_X6_row wz_X6 wc_X6_row (by decide +kernel) rfl hP hD hS hA 0 3 rfl rfl rfl hl.1 dX6_propertyOf_123 rfl (Nat.le_of_ble_eq_true rfl) ⟨Nat.le_of_ble_eq_true rfl, Nat.le_of_ble_eq_true rfl⟩ ⟨Nat.zero_le _, Nat.zero_le _⟩ (fun H locs hP hD hS => ?_)
          refine x_iconst (v := (5 : Int32)) C dX6_propertyOf_126 (by decide) ?_
          refine x_iadd C dX6_propertyOf_127 ?_
          refine x_iald C h hP 1 rfl (t0 := 0) rfl dX6_propertyOf_128 (fun h => ?_)
          exact RETh dX6_propertyOf_129 h hP hD hS
theorem dX6_pending_0 : decode cX6_pending 0 = .ok (.iconst 0, 1) := by decide +kernel
theorem dX6_pending_1 : decode cX6_pending 1 = .ok (.istore_n 1, 1) := by decide +kernel
theorem dX6_pending_2 : decode cX6_pending 2 = .ok (.iconst 0, 1) := by decide +kernel
theorem dX6_pending_3 : decode cX6_pending 3 = .ok (.istore_n 2, 1) := by decide +kernel
theorem dX6_pending_4 : decode cX6_pending 4 = .ok (.iload_n 2, 1) := by decide +kernel
theorem dX6_pending_5 : decode cX6_pending 5 = .ok (.bipush 24, 2) := by decide +kernel
theorem dX6_pending_7 : decode cX6_pending 7 = .ok (.if_icmp .ge 46, 3) := by decide +kernel
theorem dX6_pending_10 : decode cX6_pending 10 = .ok (.iload_n 1, 1) := by decide +kernel
theorem dX6_pending_11 : decode cX6_pending 11 = .ok (.aload_n 0, 1) := by decide +kernel
theorem dX6_pending_12 : decode cX6_pending 12 = .ok (.getfield 7, 3) := by decide +kernel
theorem dX6_pending_15 : decode cX6_pending 15 = .ok (.aload_n 0, 1) := by decide +kernel
theorem dX6_pending_16 : decode cX6_pending 16 = .ok (.iload_n 2, 1) := by decide +kernel
theorem dX6_pending_17 : decode cX6_pending 17 = .ok (.invokevirtual 74, 3) := by decide +kernel
theorem dX6_pending_20 : decode cX6_pending 20 = .ok (.bipush 9, 2) := by decide +kernel
theorem dX6_pending_22 : decode cX6_pending 22 = .ok (.iadd, 1) := by decide +kernel
theorem dX6_pending_23 : decode cX6_pending 23 = .ok (.iaload, 1) := by decide +kernel
theorem dX6_pending_24 : decode cX6_pending 24 = .ok (.iconst 1, 1) := by decide +kernel
theorem dX6_pending_25 : decode cX6_pending 25 = .ok (.if_icmp .ne 19, 3) := by decide +kernel
theorem dX6_pending_28 : decode cX6_pending 28 = .ok (.aload_n 0, 1) := by decide +kernel
theorem dX6_pending_29 : decode cX6_pending 29 = .ok (.getfield 7, 3) := by decide +kernel
theorem dX6_pending_32 : decode cX6_pending 32 = .ok (.aload_n 0, 1) := by decide +kernel
theorem dX6_pending_33 : decode cX6_pending 33 = .ok (.iload_n 2, 1) := by decide +kernel
theorem dX6_pending_34 : decode cX6_pending 34 = .ok (.invokevirtual 74, 3) := by decide +kernel
theorem dX6_pending_37 : decode cX6_pending 37 = .ok (.bipush 6, 2) := by decide +kernel
theorem dX6_pending_39 : decode cX6_pending 39 = .ok (.iadd, 1) := by decide +kernel
theorem dX6_pending_40 : decode cX6_pending 40 = .ok (.iaload, 1) := by decide +kernel
theorem dX6_pending_41 : decode cX6_pending 41 = .ok (.goto 4, 3) := by decide +kernel
theorem dX6_pending_44 : decode cX6_pending 44 = .ok (.iconst 0, 1) := by decide +kernel
theorem dX6_pending_45 : decode cX6_pending 45 = .ok (.iadd, 1) := by decide +kernel
theorem dX6_pending_46 : decode cX6_pending 46 = .ok (.istore_n 1, 1) := by decide +kernel
theorem dX6_pending_47 : decode cX6_pending 47 = .ok (.iinc 2 1, 3) := by decide +kernel
theorem dX6_pending_50 : decode cX6_pending 50 = .ok (.goto (-46), 3) := by decide +kernel
theorem dX6_pending_53 : decode cX6_pending 53 = .ok (.iload_n 1, 1) := by decide +kernel
theorem dX6_pending_54 : decode cX6_pending 54 = .ok (.ireturn, 1) := by decide +kernel
def bfX6_pending_45 (S : MS) (K4 : Int32 × Int32 → Option (Int32)) (x2 : Int32) (s0 : Int32) (s1 : Int32) : Option (Int32) :=
  nm ((s0 + s1)) fun v4 => K4 (v4, (x2 + (1 : Int32)))
def bfX6_pending_4 (S : MS) (K4 : Int32 × Int32 → Option (Int32)) (x : Int32 × Int32) : Option (Int32) :=
  match x with
  | (x1, x2) => (if (24 : Int32) ≤ x2 then some x1 else ob (fX6_slot x2 S) fun u5 => (if okI (u5 + (9 : Int32)) 5130 then (if (S.1 ((u5 + (9 : Int32))).toNatClampNeg) = (1 : Int32) then ob (fX6_slot x2 S) fun u6 => (if okI (u6 + (6 : Int32)) 5130 then bfX6_pending_45 S K4 x2 x1 ((S.1 ((u6 + (6 : Int32))).toNatClampNeg)) else none) else bfX6_pending_45 S K4 x2 x1 ((0 : Int32))) else none))
def fX6_pending (S : MS) : Option (Int32) :=
  iter (bfX6_pending_4 S) FU ((0 : Int32), (0 : Int32))
set_option maxHeartbeats 4000000 in
set_option maxRecDepth 100000 in
theorem kX6_pending (l : Launch) (D : va_G) (cI cS : ClassId) (aM : Nat → Nat) (S : MS) {q : Int32} (h : fX6_pending S = some q) : Mc l D (tyL cI cS) false yX6_pending cX6_pending 3 (some .int) 2 [.ref (aM 0)] (wM cI aM S) (some (.int q)) (wM cI aM S) := by
  refine Mc_of RX6 (by decide +kernel) rfl wc_X6_pending (Nat.le_of_ble_eq_true rfl) ?_
  intro p e s m args below meth c A Q ls C hA hz hP hD hS hl RET
  have RETh : ∀ {pc : Nat} {ls : Array Slot} {H : Heap} {locs : List Loc} {x : Int32} , decode cX6_pending pc = .ok (.ireturn, 1) → some x = some q → va_P D vwCl (wM cI aM S) H → va_D A (wM cI aM S) → va_S A s.heap H locs → W p l e (rmL 2) s m args below meth c H locs 0 0 Q (F0 m pc ls [.int x]) := by
    intro pc ls H locs x hd h hP hD hS; cases h; exact RET (x_iret C hd) hP hD hS
  have B45 : ∀ (K4 : Int32 × Int32 → Option (Int32)) (ih4 : ∀ x, K4 x = some q → (match x with | (x1, x2) => ∀ (H : Heap) (locs : List Loc) (ls : Array Slot), va_P D vwCl (wM cI aM S) H → va_D A (wM cI aM S) → va_S A s.heap H locs → lv_has ls 3 [(0, .ref (aM 0)), (1, .int x1), (2, .int x2)] → W p l e (rmL 2) s m args below meth c H locs 0 0 Q (F0 m 4 ls []))) (x2 : Int32) (s0 : Int32) (s1 : Int32), bfX6_pending_45 S K4 x2 s0 s1 = some q → ∀ (H : Heap) (locs : List Loc) (ls : Array Slot), va_P D vwCl (wM cI aM S) H → va_D A (wM cI aM S) → va_S A s.heap H locs → lv_has ls 3 [(0, .ref (aM 0)), (2, .int x2)] → W p l e (rmL 2) s m args below meth c H locs 0 0 Q (F0 m 45 ls [.int s1, .int s0]) := by
    intro K4 ih4 x2 s0 s1 h H locs ls hP hD hS hl
    refine x_iadd C dX6_pending_45 ?_
    refine x_nmi h (fun v4 h => ?_)
    refine x_istore_n (lv' := [(1, .int v4), (0, .ref (aM 0)), (2, .int x2)]) C dX6_pending_46 rfl hl (by decide) rfl (fun ls hl => ?_)
    refine x_iinc (v := (x2 + (1 : Int32))) (lv' := [(2, .int (x2 + (1 : Int32))), (1, .int v4), (0, .ref (aM 0))]) C dX6_pending_47 hl (k := 2) rfl rfl (by decide) rfl (fun ls hl => ?_)
    refine x_goto (tgt := 4) C dX6_pending_50 (by decide) ?_
    exact ih4 _ h _ _ _ hP hD hS (lv_sub hl [2, 1, 0] rfl)
  have B4 : ∀ (n : Nat) (x : Int32 × Int32), iter (bfX6_pending_4 S) n x = some q → (match x with | (x1, x2) => ∀ (H : Heap) (locs : List Loc) (ls : Array Slot), va_P D vwCl (wM cI aM S) H → va_D A (wM cI aM S) → va_S A s.heap H locs → lv_has ls 3 [(0, .ref (aM 0)), (1, .int x1), (2, .int x2)] → W p l e (rmL 2) s m args below meth c H locs 0 0 Q (F0 m 4 ls [])) := by
    refine iter_ind (fun x : Int32 × Int32 => (match x with | (x1, x2) => ∀ (H : Heap) (locs : List Loc) (ls : Array Slot), va_P D vwCl (wM cI aM S) H → va_D A (wM cI aM S) → va_S A s.heap H locs → lv_has ls 3 [(0, .ref (aM 0)), (1, .int x1), (2, .int x2)] → W p l e (rmL 2) s m args below meth c H locs 0 0 Q (F0 m 4 ls []))) ?_
    intro K4 ih4 x h
    obtain ⟨x1, x2⟩ := x
    intro H locs ls hP hD hS hl
    refine x_iload_n C dX6_pending_4 rfl hl 2 rfl ?_
    refine x_bipush (v := (24 : Int32)) C dX6_pending_5 (by decide) ?_
    refine x_icmp_ge (tgt := 53) C h dX6_pending_7 (by decide) (fun h => ?_) (fun h => ?_)
    · refine x_iload_n C dX6_pending_53 rfl hl 1 rfl ?_
      exact RETh dX6_pending_54 h hP hD hS
    · refine x_iload_n C dX6_pending_10 rfl hl 1 rfl ?_
      refine x_aload_n C dX6_pending_11 rfl hl 0 rfl ?_
      refine x_get C inX6 hP 0 rfl rfl 0 (by decide) wf_X6_7 rfl dX6_pending_12 ?_
      refine x_aload_n C dX6_pending_15 rfl hl 0 rfl ?_
      refine x_iload_n C dX6_pending_16 rfl hl 2 rfl ?_
      obtain ⟨u5, hu5, h⟩ := ob_some h
      refine x_callV (As := [.int _]) (n := 1) C (kX6_slot l D cI cS aM _ _ hu5) (fun hh => nomatch hh) wm_X6_74 wi_X6_slot we_X6_slot wz_X6 wc_X6_slot (by decide +kernel) rfl hP hD hS hA 0 3 rfl rfl rfl hl.1 dX6_pending_17 rfl (Nat.le_of_ble_eq_true rfl) ⟨Nat.le_of_ble_eq_true rfl, Nat.le_of_ble_eq_true rfl⟩ ⟨Nat.zero_le _, Nat.zero_le _⟩ (fun H locs hP hD hS => ?_)
      refine x_bipush (v := (9 : Int32)) C dX6_pending_20 (by decide) ?_
      refine x_iadd C dX6_pending_22 ?_
      refine x_iald C h hP 1 rfl (t0 := 0) rfl dX6_pending_23 (fun h => ?_)
      refine x_iconst (v := (1 : Int32)) C dX6_pending_24 (by decide) ?_
      refine x_icmp_ne (tgt := 44) C h dX6_pending_25 (by decide) (fun h => ?_) (fun h => ?_)
      · refine x_iconst (v := (0 : Int32)) C dX6_pending_44 (by decide) ?_
        exact B45 K4 ih4 _ _ _ h _ _ _ hP hD hS (lv_sub hl [0, 2] rfl)
      · refine x_aload_n C dX6_pending_28 rfl hl 0 rfl ?_
        refine x_get C inX6 hP 0 rfl rfl 0 (by decide) wf_X6_7 rfl dX6_pending_29 ?_
        refine x_aload_n C dX6_pending_32 rfl hl 0 rfl ?_
        refine x_iload_n C dX6_pending_33 rfl hl 2 rfl ?_
        obtain ⟨u6, hu6, h⟩ := ob_some h
        refine x_callV (As := [.int _]) (n := 1) C (kX6_slot l D cI cS aM _ _ hu6) (fun hh => nomatch hh) wm_X6_74 wi_X6_slot we_X6_slot wz_X6 wc_X6_slot (by decide +kernel) rfl hP hD hS hA 0 3 rfl rfl rfl hl.1 dX6_pending_34 rfl (Nat.le_of_ble_eq_true rfl) ⟨Nat.le_of_ble_eq_true rfl, Nat.le_of_ble_eq_true rfl⟩ ⟨Nat.zero_le _, Nat.zero_le _⟩ (fun H locs hP hD hS => ?_)
        refine x_bipush (v := (6 : Int32)) C dX6_pending_37 (by decide) ?_
        refine x_iadd C dX6_pending_39 ?_
        refine x_iald C h hP 1 rfl (t0 := 0) rfl dX6_pending_40 (fun h => ?_)
        refine x_goto (tgt := 45) C dX6_pending_41 (by decide) ?_
        exact B45 K4 ih4 _ _ _ h _ _ _ hP hD hS (lv_sub hl [0, 2] rfl)
  refine x_iconst (v := (0 : Int32)) C dX6_pending_0 (by decide) ?_
  refine x_istore_n (lv' := [(1, .int (0 : Int32)), (0, .ref (aM 0))]) C dX6_pending_1 rfl hl (by decide) rfl (fun ls hl => ?_)
  refine x_iconst (v := (0 : Int32)) C dX6_pending_2 (by decide) ?_
  refine x_istore_n (lv' := [(2, .int (0 : Int32)), (1, .int (0 : Int32)), (0, .ref (aM 0))]) C dX6_pending_3 rfl hl (by decide) rfl (fun ls hl => ?_)
  exact B4 FU _ h _ _ _ hP hD hS (lv_sub hl [2, 1, 0] rfl)
theorem dX6_waiting_0 : decode cX6_waiting 0 = .ok (.iconst 0, 1) := by decide +kernel
theorem dX6_waiting_1 : decode cX6_waiting 1 = .ok (.istore_n 1, 1) := by decide +kernel
theorem dX6_waiting_2 : decode cX6_waiting 2 = .ok (.iconst 0, 1) := by decide +kernel
theorem dX6_waiting_3 : decode cX6_waiting 3 = .ok (.istore_n 2, 1) := by decide +kernel
theorem dX6_waiting_4 : decode cX6_waiting 4 = .ok (.iload_n 2, 1) := by decide +kernel
theorem dX6_waiting_5 : decode cX6_waiting 5 = .ok (.aload_n 0, 1) := by decide +kernel
theorem dX6_waiting_6 : decode cX6_waiting 6 = .ok (.getfield 7, 3) := by decide +kernel
theorem dX6_waiting_9 : decode cX6_waiting 9 = .ok (.sipush 188, 3) := by decide +kernel
theorem dX6_waiting_12 : decode cX6_waiting 12 = .ok (.iaload, 1) := by decide +kernel
theorem dX6_waiting_13 : decode cX6_waiting 13 = .ok (.if_icmp .ge 24, 3) := by decide +kernel
theorem dX6_waiting_16 : decode cX6_waiting 16 = .ok (.iload_n 1, 1) := by decide +kernel
theorem dX6_waiting_17 : decode cX6_waiting 17 = .ok (.aload_n 0, 1) := by decide +kernel
theorem dX6_waiting_18 : decode cX6_waiting 18 = .ok (.getfield 7, 3) := by decide +kernel
theorem dX6_waiting_21 : decode cX6_waiting 21 = .ok (.aload_n 0, 1) := by decide +kernel
theorem dX6_waiting_22 : decode cX6_waiting 22 = .ok (.iload_n 2, 1) := by decide +kernel
theorem dX6_waiting_23 : decode cX6_waiting 23 = .ok (.invokevirtual 48, 3) := by decide +kernel
theorem dX6_waiting_26 : decode cX6_waiting 26 = .ok (.iconst 4, 1) := by decide +kernel
theorem dX6_waiting_27 : decode cX6_waiting 27 = .ok (.iadd, 1) := by decide +kernel
theorem dX6_waiting_28 : decode cX6_waiting 28 = .ok (.iaload, 1) := by decide +kernel
theorem dX6_waiting_29 : decode cX6_waiting 29 = .ok (.iadd, 1) := by decide +kernel
theorem dX6_waiting_30 : decode cX6_waiting 30 = .ok (.istore_n 1, 1) := by decide +kernel
theorem dX6_waiting_31 : decode cX6_waiting 31 = .ok (.iinc 2 1, 3) := by decide +kernel
theorem dX6_waiting_34 : decode cX6_waiting 34 = .ok (.goto (-30), 3) := by decide +kernel
theorem dX6_waiting_37 : decode cX6_waiting 37 = .ok (.iload_n 1, 1) := by decide +kernel
theorem dX6_waiting_38 : decode cX6_waiting 38 = .ok (.ireturn, 1) := by decide +kernel
def bfX6_waiting_4 (S : MS) (K4 : Int32 × Int32 → Option (Int32)) (x : Int32 × Int32) : Option (Int32) :=
  match x with
  | (x1, x2) => (if (S.1 ((188 : Int32)).toNatClampNeg) ≤ x2 then some x1 else ob (fX6_row x2 S) fun u3 => (if okI (u3 + (4 : Int32)) 5130 then nm ((x1 + (S.1 ((u3 + (4 : Int32))).toNatClampNeg))) fun v4 => K4 (v4, (x2 + (1 : Int32))) else none))
def fX6_waiting (S : MS) : Option (Int32) :=
  iter (bfX6_waiting_4 S) FU ((0 : Int32), (0 : Int32))
set_option maxHeartbeats 4000000 in
set_option maxRecDepth 100000 in
theorem kX6_waiting (l : Launch) (D : va_G) (cI cS : ClassId) (aM : Nat → Nat) (S : MS) {q : Int32} (h : fX6_waiting S = some q) : Mc l D (tyL cI cS) false yX6_waiting cX6_waiting 3 (some .int) 2 [.ref (aM 0)] (wM cI aM S) (some (.int q)) (wM cI aM S) := by
  refine Mc_of RX6 (by decide +kernel) rfl wc_X6_waiting (Nat.le_of_ble_eq_true rfl) ?_
  intro p e s m args below meth c A Q ls C hA hz hP hD hS hl RET
  have RETh : ∀ {pc : Nat} {ls : Array Slot} {H : Heap} {locs : List Loc} {x : Int32} , decode cX6_waiting pc = .ok (.ireturn, 1) → some x = some q → va_P D vwCl (wM cI aM S) H → va_D A (wM cI aM S) → va_S A s.heap H locs → W p l e (rmL 2) s m args below meth c H locs 0 0 Q (F0 m pc ls [.int x]) := by
    intro pc ls H locs x hd h hP hD hS; cases h; exact RET (x_iret C hd) hP hD hS
  have B4 : ∀ (n : Nat) (x : Int32 × Int32), iter (bfX6_waiting_4 S) n x = some q → (match x with | (x1, x2) => ∀ (H : Heap) (locs : List Loc) (ls : Array Slot), va_P D vwCl (wM cI aM S) H → va_D A (wM cI aM S) → va_S A s.heap H locs → lv_has ls 3 [(0, .ref (aM 0)), (1, .int x1), (2, .int x2)] → W p l e (rmL 2) s m args below meth c H locs 0 0 Q (F0 m 4 ls [])) := by
    refine iter_ind (fun x : Int32 × Int32 => (match x with | (x1, x2) => ∀ (H : Heap) (locs : List Loc) (ls : Array Slot), va_P D vwCl (wM cI aM S) H → va_D A (wM cI aM S) → va_S A s.heap H locs → lv_has ls 3 [(0, .ref (aM 0)), (1, .int x1), (2, .int x2)] → W p l e (rmL 2) s m args below meth c H locs 0 0 Q (F0 m 4 ls []))) ?_
    intro K4 ih4 x h
    obtain ⟨x1, x2⟩ := x
    intro H locs ls hP hD hS hl
    refine x_iload_n C dX6_waiting_4 rfl hl 2 rfl ?_
    refine x_aload_n C dX6_waiting_5 rfl hl 0 rfl ?_
    refine x_get C inX6 hP 0 rfl rfl 0 (by decide) wf_X6_7 rfl dX6_waiting_6 ?_
    refine x_sipush (v := (188 : Int32)) C dX6_waiting_9 (by decide) ?_
    refine x_ialdK C (by decide) hP 1 rfl (t0 := 0) rfl dX6_waiting_12 ?_
    refine x_icmp_ge (tgt := 37) C h dX6_waiting_13 (by decide) (fun h => ?_) (fun h => ?_)
    · refine x_iload_n C dX6_waiting_37 rfl hl 1 rfl ?_
      exact RETh dX6_waiting_38 h hP hD hS
    · refine x_iload_n C dX6_waiting_16 rfl hl 1 rfl ?_
      refine x_aload_n C dX6_waiting_17 rfl hl 0 rfl ?_
      refine x_get C inX6 hP 0 rfl rfl 0 (by decide) wf_X6_7 rfl dX6_waiting_18 ?_
      refine x_aload_n C dX6_waiting_21 rfl hl 0 rfl ?_
      refine x_iload_n C dX6_waiting_22 rfl hl 2 rfl ?_
      obtain ⟨u3, hu3, h⟩ := ob_some h
      refine x_callV (As := [.int _]) (n := 1) C (kX6_row l D cI cS aM _ _ hu3) (fun hh => nomatch hh) wm_X6_48 wi_X6_row we_X6_row wz_X6 wc_X6_row (by decide +kernel) rfl hP hD hS hA 0 3 rfl rfl rfl hl.1 dX6_waiting_23 rfl (Nat.le_of_ble_eq_true rfl) ⟨Nat.le_of_ble_eq_true rfl, Nat.le_of_ble_eq_true rfl⟩ ⟨Nat.zero_le _, Nat.zero_le _⟩ (fun H locs hP hD hS => ?_)
      refine x_iconst (v := (4 : Int32)) C dX6_waiting_26 (by decide) ?_
      refine x_iadd C dX6_waiting_27 ?_
      refine x_iald C h hP 1 rfl (t0 := 0) rfl dX6_waiting_28 (fun h => ?_)
      refine x_iadd C dX6_waiting_29 ?_
      refine x_nmi h (fun v4 h => ?_)
      refine x_istore_n (lv' := [(1, .int v4), (0, .ref (aM 0)), (2, .int x2)]) C dX6_waiting_30 rfl hl (by decide) rfl (fun ls hl => ?_)
      refine x_iinc (v := (x2 + (1 : Int32))) (lv' := [(2, .int (x2 + (1 : Int32))), (1, .int v4), (0, .ref (aM 0))]) C dX6_waiting_31 hl (k := 2) rfl rfl (by decide) rfl (fun ls hl => ?_)
      refine x_goto (tgt := 4) C dX6_waiting_34 (by decide) ?_
      exact ih4 _ h _ _ _ hP hD hS (lv_sub hl [2, 1, 0] rfl)
  refine x_iconst (v := (0 : Int32)) C dX6_waiting_0 (by decide) ?_
  refine x_istore_n (lv' := [(1, .int (0 : Int32)), (0, .ref (aM 0))]) C dX6_waiting_1 rfl hl (by decide) rfl (fun ls hl => ?_)
  refine x_iconst (v := (0 : Int32)) C dX6_waiting_2 (by decide) ?_
  refine x_istore_n (lv' := [(2, .int (0 : Int32)), (1, .int (0 : Int32)), (0, .ref (aM 0))]) C dX6_waiting_3 rfl hl (by decide) rfl (fun ls hl => ?_)
  exact B4 FU _ h _ _ _ hP hD hS (lv_sub hl [2, 1, 0] rfl)
theorem dX6_told_0 : decode cX6_told 0 = .ok (.iload_n 1, 1) := by decide +kernel
theorem dX6_told_1 : decode cX6_told 1 = .ok (.tableswitch 170 0 12 #[67, 76, 85, 90, 99, 108, 116, 124, 133, 142, 147, 156, 165], 67) := by decide +kernel
theorem dX6_told_68 : decode cX6_told 68 = .ok (.aload_n 0, 1) := by decide +kernel
theorem dX6_told_69 : decode cX6_told 69 = .ok (.getfield 7, 3) := by decide +kernel
theorem dX6_told_72 : decode cX6_told 72 = .ok (.sipush 182, 3) := by decide +kernel
theorem dX6_told_75 : decode cX6_told 75 = .ok (.iaload, 1) := by decide +kernel
theorem dX6_told_76 : decode cX6_told 76 = .ok (.ireturn, 1) := by decide +kernel
theorem dX6_told_77 : decode cX6_told 77 = .ok (.aload_n 0, 1) := by decide +kernel
theorem dX6_told_78 : decode cX6_told 78 = .ok (.getfield 7, 3) := by decide +kernel
theorem dX6_told_81 : decode cX6_told 81 = .ok (.sipush 188, 3) := by decide +kernel
theorem dX6_told_84 : decode cX6_told 84 = .ok (.iaload, 1) := by decide +kernel
theorem dX6_told_85 : decode cX6_told 85 = .ok (.ireturn, 1) := by decide +kernel
theorem dX6_told_86 : decode cX6_told 86 = .ok (.aload_n 0, 1) := by decide +kernel
theorem dX6_told_87 : decode cX6_told 87 = .ok (.invokevirtual 166, 3) := by decide +kernel
theorem dX6_told_90 : decode cX6_told 90 = .ok (.ireturn, 1) := by decide +kernel
theorem dX6_told_91 : decode cX6_told 91 = .ok (.aload_n 0, 1) := by decide +kernel
theorem dX6_told_92 : decode cX6_told 92 = .ok (.getfield 7, 3) := by decide +kernel
theorem dX6_told_95 : decode cX6_told 95 = .ok (.sipush 557, 3) := by decide +kernel
theorem dX6_told_98 : decode cX6_told 98 = .ok (.iaload, 1) := by decide +kernel
theorem dX6_told_99 : decode cX6_told 99 = .ok (.ireturn, 1) := by decide +kernel
theorem dX6_told_100 : decode cX6_told 100 = .ok (.aload_n 0, 1) := by decide +kernel
theorem dX6_told_101 : decode cX6_told 101 = .ok (.getfield 7, 3) := by decide +kernel
theorem dX6_told_104 : decode cX6_told 104 = .ok (.sipush 574, 3) := by decide +kernel
theorem dX6_told_107 : decode cX6_told 107 = .ok (.iaload, 1) := by decide +kernel
theorem dX6_told_108 : decode cX6_told 108 = .ok (.ireturn, 1) := by decide +kernel
theorem dX6_told_109 : decode cX6_told 109 = .ok (.aload_n 0, 1) := by decide +kernel
theorem dX6_told_110 : decode cX6_told 110 = .ok (.sipush 591, 3) := by decide +kernel
theorem dX6_told_113 : decode cX6_told 113 = .ok (.invokevirtual 169, 3) := by decide +kernel
theorem dX6_told_116 : decode cX6_told 116 = .ok (.ireturn, 1) := by decide +kernel
theorem dX6_told_117 : decode cX6_told 117 = .ok (.aload_n 0, 1) := by decide +kernel
theorem dX6_told_118 : decode cX6_told 118 = .ok (.sipush 595, 3) := by decide +kernel
theorem dX6_told_121 : decode cX6_told 121 = .ok (.invokevirtual 169, 3) := by decide +kernel
theorem dX6_told_124 : decode cX6_told 124 = .ok (.ireturn, 1) := by decide +kernel
theorem dX6_told_125 : decode cX6_told 125 = .ok (.aload_n 0, 1) := by decide +kernel
theorem dX6_told_126 : decode cX6_told 126 = .ok (.getfield 7, 3) := by decide +kernel
theorem dX6_told_129 : decode cX6_told 129 = .ok (.sipush 185, 3) := by decide +kernel
theorem dX6_told_132 : decode cX6_told 132 = .ok (.iaload, 1) := by decide +kernel
theorem dX6_told_133 : decode cX6_told 133 = .ok (.ireturn, 1) := by decide +kernel
theorem dX6_told_134 : decode cX6_told 134 = .ok (.aload_n 0, 1) := by decide +kernel
theorem dX6_told_135 : decode cX6_told 135 = .ok (.getfield 7, 3) := by decide +kernel
theorem dX6_told_138 : decode cX6_told 138 = .ok (.sipush 186, 3) := by decide +kernel
theorem dX6_told_141 : decode cX6_told 141 = .ok (.iaload, 1) := by decide +kernel
theorem dX6_told_142 : decode cX6_told 142 = .ok (.ireturn, 1) := by decide +kernel
theorem dX6_told_143 : decode cX6_told 143 = .ok (.aload_n 0, 1) := by decide +kernel
theorem dX6_told_144 : decode cX6_told 144 = .ok (.invokevirtual 172, 3) := by decide +kernel
theorem dX6_told_147 : decode cX6_told 147 = .ok (.ireturn, 1) := by decide +kernel
theorem dX6_told_148 : decode cX6_told 148 = .ok (.aload_n 0, 1) := by decide +kernel
theorem dX6_told_149 : decode cX6_told 149 = .ok (.getfield 7, 3) := by decide +kernel
theorem dX6_told_152 : decode cX6_told 152 = .ok (.sipush 187, 3) := by decide +kernel
theorem dX6_told_155 : decode cX6_told 155 = .ok (.iaload, 1) := by decide +kernel
theorem dX6_told_156 : decode cX6_told 156 = .ok (.ireturn, 1) := by decide +kernel
theorem dX6_told_157 : decode cX6_told 157 = .ok (.aload_n 0, 1) := by decide +kernel
theorem dX6_told_158 : decode cX6_told 158 = .ok (.getfield 7, 3) := by decide +kernel
theorem dX6_told_161 : decode cX6_told 161 = .ok (.sipush 178, 3) := by decide +kernel
theorem dX6_told_164 : decode cX6_told 164 = .ok (.iaload, 1) := by decide +kernel
theorem dX6_told_165 : decode cX6_told 165 = .ok (.ireturn, 1) := by decide +kernel
theorem dX6_told_166 : decode cX6_told 166 = .ok (.aload_n 0, 1) := by decide +kernel
theorem dX6_told_167 : decode cX6_told 167 = .ok (.getfield 25, 3) := by decide +kernel
theorem dX6_told_170 : decode cX6_told 170 = .ok (.ireturn, 1) := by decide +kernel
theorem dX6_told_171 : decode cX6_told 171 = .ok (.iconst (-1), 1) := by decide +kernel
theorem dX6_told_172 : decode cX6_told 172 = .ok (.ireturn, 1) := by decide +kernel
def fX6_told (p1 : Int32) (S : MS) : Option (Int32) :=
  (if p1 = (0 : Int32) then some (S.1 ((182 : Int32)).toNatClampNeg) else (if p1 = (1 : Int32) then some (S.1 ((188 : Int32)).toNatClampNeg) else (if p1 = (2 : Int32) then ob (fX6_waiting  S) fun u8 => some u8 else (if p1 = (3 : Int32) then some (S.1 ((557 : Int32)).toNatClampNeg) else (if p1 = (4 : Int32) then some (S.1 ((574 : Int32)).toNatClampNeg) else (if p1 = (5 : Int32) then ob (fX6_busy (591 : Int32) S) fun u7 => some u7 else (if p1 = (6 : Int32) then ob (fX6_busy (595 : Int32) S) fun u6 => some u6 else (if p1 = (7 : Int32) then some (S.1 ((185 : Int32)).toNatClampNeg) else (if p1 = (8 : Int32) then some (S.1 ((186 : Int32)).toNatClampNeg) else (if p1 = (9 : Int32) then ob (fX6_pending  S) fun u5 => some u5 else (if p1 = (10 : Int32) then some (S.1 ((187 : Int32)).toNatClampNeg) else (if p1 = (11 : Int32) then some (S.1 ((178 : Int32)).toNatClampNeg) else (if p1 = (12 : Int32) then some (S.2.2 1) else some (-1 : Int32))))))))))))))
set_option maxHeartbeats 4000000 in
set_option maxRecDepth 100000 in
theorem kX6_told (l : Launch) (D : va_G) (cI cS : ClassId) (aM : Nat → Nat) (p1 : Int32) (S : MS) {q : Int32} (h : fX6_told p1 S = some q) : Mc l D (tyL cI cS) false yX6_told cX6_told 2 (some .int) 3 [.ref (aM 0), .int p1] (wM cI aM S) (some (.int q)) (wM cI aM S) := by
  refine Mc_of RX6 (by decide +kernel) rfl wc_X6_told (Nat.le_of_ble_eq_true rfl) ?_
  intro p e s m args below meth c A Q ls C hA hz hP hD hS hl RET
  have RETh : ∀ {pc : Nat} {ls : Array Slot} {H : Heap} {locs : List Loc} {x : Int32} , decode cX6_told pc = .ok (.ireturn, 1) → some x = some q → va_P D vwCl (wM cI aM S) H → va_D A (wM cI aM S) → va_S A s.heap H locs → W p l e (rmL 3) s m args below meth c H locs 0 0 Q (F0 m pc ls [.int x]) := by
    intro pc ls H locs x hd h hP hD hS; cases h; exact RET (x_iret C hd) hP hD hS
  refine x_iload_n C dX6_told_0 rfl hl 1 rfl ?_
  rcases x_ifc h with ⟨hc, h⟩ | ⟨hc0, h⟩
  · refine x_tabIn (tgt := 68) C dX6_told_1 (by rw [hc]; decide) (by rw [hc]; decide) (by rw [hc]; rfl) (by decide) ?_
    refine x_aload_n C dX6_told_68 rfl hl 0 rfl ?_
    refine x_get C inX6 hP 0 rfl rfl 0 (by decide) wf_X6_7 rfl dX6_told_69 ?_
    refine x_sipush (v := (182 : Int32)) C dX6_told_72 (by decide) ?_
    refine x_ialdK C (by decide) hP 1 rfl (t0 := 0) rfl dX6_told_75 ?_
    exact RETh dX6_told_76 h hP hD hS
  ·
    rcases x_ifc h with ⟨hc, h⟩ | ⟨hc1, h⟩
    · refine x_tabIn (tgt := 77) C dX6_told_1 (by rw [hc]; decide) (by rw [hc]; decide) (by rw [hc]; rfl) (by decide) ?_
      refine x_aload_n C dX6_told_77 rfl hl 0 rfl ?_
      refine x_get C inX6 hP 0 rfl rfl 0 (by decide) wf_X6_7 rfl dX6_told_78 ?_
      refine x_sipush (v := (188 : Int32)) C dX6_told_81 (by decide) ?_
      refine x_ialdK C (by decide) hP 1 rfl (t0 := 0) rfl dX6_told_84 ?_
      exact RETh dX6_told_85 h hP hD hS
    ·
      rcases x_ifc h with ⟨hc, h⟩ | ⟨hc2, h⟩
      · refine x_tabIn (tgt := 86) C dX6_told_1 (by rw [hc]; decide) (by rw [hc]; decide) (by rw [hc]; rfl) (by decide) ?_
        refine x_aload_n C dX6_told_86 rfl hl 0 rfl ?_
        obtain ⟨u8, hu8, h⟩ := ob_some h
        refine x_callV (As := []) (n := 0) C (kX6_waiting l D cI cS aM  _ hu8) (fun hh => nomatch hh) wm_X6_166 wi_X6_waiting we_X6_waiting wz_X6 wc_X6_waiting (by decide +kernel) rfl hP hD hS hA 0 3 rfl rfl rfl hl.1 dX6_told_87 rfl (Nat.le_of_ble_eq_true rfl) ⟨Nat.le_of_ble_eq_true rfl, Nat.le_of_ble_eq_true rfl⟩ ⟨Nat.zero_le _, Nat.zero_le _⟩ (fun H locs hP hD hS => ?_)
        exact RETh dX6_told_90 h hP hD hS
      ·
        rcases x_ifc h with ⟨hc, h⟩ | ⟨hc3, h⟩
        · refine x_tabIn (tgt := 91) C dX6_told_1 (by rw [hc]; decide) (by rw [hc]; decide) (by rw [hc]; rfl) (by decide) ?_
          refine x_aload_n C dX6_told_91 rfl hl 0 rfl ?_
          refine x_get C inX6 hP 0 rfl rfl 0 (by decide) wf_X6_7 rfl dX6_told_92 ?_
          refine x_sipush (v := (557 : Int32)) C dX6_told_95 (by decide) ?_
          refine x_ialdK C (by decide) hP 1 rfl (t0 := 0) rfl dX6_told_98 ?_
          exact RETh dX6_told_99 h hP hD hS
        ·
          rcases x_ifc h with ⟨hc, h⟩ | ⟨hc4, h⟩
          · refine x_tabIn (tgt := 100) C dX6_told_1 (by rw [hc]; decide) (by rw [hc]; decide) (by rw [hc]; rfl) (by decide) ?_
            refine x_aload_n C dX6_told_100 rfl hl 0 rfl ?_
            refine x_get C inX6 hP 0 rfl rfl 0 (by decide) wf_X6_7 rfl dX6_told_101 ?_
            refine x_sipush (v := (574 : Int32)) C dX6_told_104 (by decide) ?_
            refine x_ialdK C (by decide) hP 1 rfl (t0 := 0) rfl dX6_told_107 ?_
            exact RETh dX6_told_108 h hP hD hS
          ·
            rcases x_ifc h with ⟨hc, h⟩ | ⟨hc5, h⟩
            · refine x_tabIn (tgt := 109) C dX6_told_1 (by rw [hc]; decide) (by rw [hc]; decide) (by rw [hc]; rfl) (by decide) ?_
              refine x_aload_n C dX6_told_109 rfl hl 0 rfl ?_
              refine x_sipush (v := (591 : Int32)) C dX6_told_110 (by decide) ?_
              obtain ⟨u7, hu7, h⟩ := ob_some h
              refine x_callV (As := [.int _]) (n := 1) C (kX6_busy l D cI cS aM _ _ hu7) (fun hh => nomatch hh) wm_X6_169 wi_X6_busy we_X6_busy wz_X6 wc_X6_busy (by decide +kernel) rfl hP hD hS hA 0 3 rfl rfl rfl hl.1 dX6_told_113 rfl (Nat.le_of_ble_eq_true rfl) ⟨Nat.le_of_ble_eq_true rfl, Nat.le_of_ble_eq_true rfl⟩ ⟨Nat.zero_le _, Nat.zero_le _⟩ (fun H locs hP hD hS => ?_)
              exact RETh dX6_told_116 h hP hD hS
            ·
              rcases x_ifc h with ⟨hc, h⟩ | ⟨hc6, h⟩
              · refine x_tabIn (tgt := 117) C dX6_told_1 (by rw [hc]; decide) (by rw [hc]; decide) (by rw [hc]; rfl) (by decide) ?_
                refine x_aload_n C dX6_told_117 rfl hl 0 rfl ?_
                refine x_sipush (v := (595 : Int32)) C dX6_told_118 (by decide) ?_
                obtain ⟨u6, hu6, h⟩ := ob_some h
                refine x_callV (As := [.int _]) (n := 1) C (kX6_busy l D cI cS aM _ _ hu6) (fun hh => nomatch hh) wm_X6_169 wi_X6_busy we_X6_busy wz_X6 wc_X6_busy (by decide +kernel) rfl hP hD hS hA 0 3 rfl rfl rfl hl.1 dX6_told_121 rfl (Nat.le_of_ble_eq_true rfl) ⟨Nat.le_of_ble_eq_true rfl, Nat.le_of_ble_eq_true rfl⟩ ⟨Nat.zero_le _, Nat.zero_le _⟩ (fun H locs hP hD hS => ?_)
                exact RETh dX6_told_124 h hP hD hS
              ·
                rcases x_ifc h with ⟨hc, h⟩ | ⟨hc7, h⟩
                · refine x_tabIn (tgt := 125) C dX6_told_1 (by rw [hc]; decide) (by rw [hc]; decide) (by rw [hc]; rfl) (by decide) ?_
                  refine x_aload_n C dX6_told_125 rfl hl 0 rfl ?_
                  refine x_get C inX6 hP 0 rfl rfl 0 (by decide) wf_X6_7 rfl dX6_told_126 ?_
                  refine x_sipush (v := (185 : Int32)) C dX6_told_129 (by decide) ?_
                  refine x_ialdK C (by decide) hP 1 rfl (t0 := 0) rfl dX6_told_132 ?_
                  exact RETh dX6_told_133 h hP hD hS
                ·
                  rcases x_ifc h with ⟨hc, h⟩ | ⟨hc8, h⟩
                  · refine x_tabIn (tgt := 134) C dX6_told_1 (by rw [hc]; decide) (by rw [hc]; decide) (by rw [hc]; rfl) (by decide) ?_
                    refine x_aload_n C dX6_told_134 rfl hl 0 rfl ?_
                    refine x_get C inX6 hP 0 rfl rfl 0 (by decide) wf_X6_7 rfl dX6_told_135 ?_
                    refine x_sipush (v := (186 : Int32)) C dX6_told_138 (by decide) ?_
                    refine x_ialdK C (by decide) hP 1 rfl (t0 := 0) rfl dX6_told_141 ?_
                    exact RETh dX6_told_142 h hP hD hS
                  ·
                    rcases x_ifc h with ⟨hc, h⟩ | ⟨hc9, h⟩
                    · refine x_tabIn (tgt := 143) C dX6_told_1 (by rw [hc]; decide) (by rw [hc]; decide) (by rw [hc]; rfl) (by decide) ?_
                      refine x_aload_n C dX6_told_143 rfl hl 0 rfl ?_
                      obtain ⟨u5, hu5, h⟩ := ob_some h
                      refine x_callV (As := []) (n := 0) C (kX6_pending l D cI cS aM  _ hu5) (fun hh => nomatch hh) wm_X6_172 wi_X6_pending we_X6_pending wz_X6 wc_X6_pending (by decide +kernel) rfl hP hD hS hA 0 3 rfl rfl rfl hl.1 dX6_told_144 rfl (Nat.le_of_ble_eq_true rfl) ⟨Nat.le_of_ble_eq_true rfl, Nat.le_of_ble_eq_true rfl⟩ ⟨Nat.zero_le _, Nat.zero_le _⟩ (fun H locs hP hD hS => ?_)
                      exact RETh dX6_told_147 h hP hD hS
                    ·
                      rcases x_ifc h with ⟨hc, h⟩ | ⟨hc10, h⟩
                      · refine x_tabIn (tgt := 148) C dX6_told_1 (by rw [hc]; decide) (by rw [hc]; decide) (by rw [hc]; rfl) (by decide) ?_
                        refine x_aload_n C dX6_told_148 rfl hl 0 rfl ?_
                        refine x_get C inX6 hP 0 rfl rfl 0 (by decide) wf_X6_7 rfl dX6_told_149 ?_
                        refine x_sipush (v := (187 : Int32)) C dX6_told_152 (by decide) ?_
                        refine x_ialdK C (by decide) hP 1 rfl (t0 := 0) rfl dX6_told_155 ?_
                        exact RETh dX6_told_156 h hP hD hS
                      ·
                        rcases x_ifc h with ⟨hc, h⟩ | ⟨hc11, h⟩
                        · refine x_tabIn (tgt := 157) C dX6_told_1 (by rw [hc]; decide) (by rw [hc]; decide) (by rw [hc]; rfl) (by decide) ?_
                          refine x_aload_n C dX6_told_157 rfl hl 0 rfl ?_
                          refine x_get C inX6 hP 0 rfl rfl 0 (by decide) wf_X6_7 rfl dX6_told_158 ?_
                          refine x_sipush (v := (178 : Int32)) C dX6_told_161 (by decide) ?_
                          refine x_ialdK C (by decide) hP 1 rfl (t0 := 0) rfl dX6_told_164 ?_
                          exact RETh dX6_told_165 h hP hD hS
                        ·
                          rcases x_ifc h with ⟨hc, h⟩ | ⟨hc12, h⟩
                          · refine x_tabIn (tgt := 166) C dX6_told_1 (by rw [hc]; decide) (by rw [hc]; decide) (by rw [hc]; rfl) (by decide) ?_
                            refine x_aload_n C dX6_told_166 rfl hl 0 rfl ?_
                            refine x_get C inX6 hP 0 rfl rfl 1 (by decide) wf_X6_25 rfl dX6_told_167 ?_
                            exact RETh dX6_told_170 h hP hD hS
                          · refine x_switch (tgt := 171) C dX6_told_1 (x_tabO0_12 hc0 hc1 hc2 hc3 hc4 hc5 hc6 hc7 hc8 hc9 hc10 hc11 hc12) (by decide) ?_
                            refine x_iconst (v := (-1 : Int32)) C dX6_told_171 (by decide) ?_
                            exact RETh dX6_told_172 h hP hD hS
theorem dX6_digest_0 : decode cX6_digest 0 = .ok (.ldc2_w 191, 3) := by decide +kernel
theorem dX6_digest_3 : decode cX6_digest 3 = .ok (.lstore_n 1, 1) := by decide +kernel
theorem dX6_digest_4 : decode cX6_digest 4 = .ok (.iconst 0, 1) := by decide +kernel
theorem dX6_digest_5 : decode cX6_digest 5 = .ok (.istore_n 3, 1) := by decide +kernel
theorem dX6_digest_6 : decode cX6_digest 6 = .ok (.iload_n 3, 1) := by decide +kernel
theorem dX6_digest_7 : decode cX6_digest 7 = .ok (.bipush 12, 2) := by decide +kernel
theorem dX6_digest_9 : decode cX6_digest 9 = .ok (.if_icmp .gt 22, 3) := by decide +kernel
theorem dX6_digest_12 : decode cX6_digest 12 = .ok (.ldc2_w 189, 3) := by decide +kernel
theorem dX6_digest_15 : decode cX6_digest 15 = .ok (.lload_n 1, 1) := by decide +kernel
theorem dX6_digest_16 : decode cX6_digest 16 = .ok (.lmul, 1) := by decide +kernel
theorem dX6_digest_17 : decode cX6_digest 17 = .ok (.aload_n 0, 1) := by decide +kernel
theorem dX6_digest_18 : decode cX6_digest 18 = .ok (.iload_n 3, 1) := by decide +kernel
theorem dX6_digest_19 : decode cX6_digest 19 = .ok (.invokevirtual 193, 3) := by decide +kernel
theorem dX6_digest_22 : decode cX6_digest 22 = .ok (.i2l, 1) := by decide +kernel
theorem dX6_digest_23 : decode cX6_digest 23 = .ok (.ladd, 1) := by decide +kernel
theorem dX6_digest_24 : decode cX6_digest 24 = .ok (.lstore_n 1, 1) := by decide +kernel
theorem dX6_digest_25 : decode cX6_digest 25 = .ok (.iinc 3 1, 3) := by decide +kernel
theorem dX6_digest_28 : decode cX6_digest 28 = .ok (.goto (-22), 3) := by decide +kernel
theorem dX6_digest_31 : decode cX6_digest 31 = .ok (.iconst 0, 1) := by decide +kernel
theorem dX6_digest_32 : decode cX6_digest 32 = .ok (.istore_n 3, 1) := by decide +kernel
theorem dX6_digest_33 : decode cX6_digest 33 = .ok (.iload_n 3, 1) := by decide +kernel
theorem dX6_digest_34 : decode cX6_digest 34 = .ok (.bipush 6, 2) := by decide +kernel
theorem dX6_digest_36 : decode cX6_digest 36 = .ok (.if_icmp .ge 16, 3) := by decide +kernel
theorem dX6_digest_39 : decode cX6_digest 39 = .ok (.aload_n 0, 1) := by decide +kernel
theorem dX6_digest_40 : decode cX6_digest 40 = .ok (.lload_n 1, 1) := by decide +kernel
theorem dX6_digest_41 : decode cX6_digest 41 = .ok (.iload_n 3, 1) := by decide +kernel
theorem dX6_digest_42 : decode cX6_digest 42 = .ok (.invokevirtual 196, 3) := by decide +kernel
theorem dX6_digest_45 : decode cX6_digest 45 = .ok (.lstore_n 1, 1) := by decide +kernel
theorem dX6_digest_46 : decode cX6_digest 46 = .ok (.iinc 3 1, 3) := by decide +kernel
theorem dX6_digest_49 : decode cX6_digest 49 = .ok (.goto (-16), 3) := by decide +kernel
theorem dX6_digest_52 : decode cX6_digest 52 = .ok (.iconst 0, 1) := by decide +kernel
theorem dX6_digest_53 : decode cX6_digest 53 = .ok (.istore_n 3, 1) := by decide +kernel
theorem dX6_digest_54 : decode cX6_digest 54 = .ok (.iload_n 3, 1) := by decide +kernel
theorem dX6_digest_55 : decode cX6_digest 55 = .ok (.aload_n 0, 1) := by decide +kernel
theorem dX6_digest_56 : decode cX6_digest 56 = .ok (.getfield 7, 3) := by decide +kernel
theorem dX6_digest_59 : decode cX6_digest 59 = .ok (.sipush 188, 3) := by decide +kernel
theorem dX6_digest_62 : decode cX6_digest 62 = .ok (.iaload, 1) := by decide +kernel
theorem dX6_digest_63 : decode cX6_digest 63 = .ok (.if_icmp .ge 59, 3) := by decide +kernel
theorem dX6_digest_66 : decode cX6_digest 66 = .ok (.ldc2_w 189, 3) := by decide +kernel
theorem dX6_digest_69 : decode cX6_digest 69 = .ok (.lload_n 1, 1) := by decide +kernel
theorem dX6_digest_70 : decode cX6_digest 70 = .ok (.lmul, 1) := by decide +kernel
theorem dX6_digest_71 : decode cX6_digest 71 = .ok (.aload_n 0, 1) := by decide +kernel
theorem dX6_digest_72 : decode cX6_digest 72 = .ok (.getfield 7, 3) := by decide +kernel
theorem dX6_digest_75 : decode cX6_digest 75 = .ok (.aload_n 0, 1) := by decide +kernel
theorem dX6_digest_76 : decode cX6_digest 76 = .ok (.iload_n 3, 1) := by decide +kernel
theorem dX6_digest_77 : decode cX6_digest 77 = .ok (.invokevirtual 48, 3) := by decide +kernel
theorem dX6_digest_80 : decode cX6_digest 80 = .ok (.iconst 0, 1) := by decide +kernel
theorem dX6_digest_81 : decode cX6_digest 81 = .ok (.iadd, 1) := by decide +kernel
theorem dX6_digest_82 : decode cX6_digest 82 = .ok (.iaload, 1) := by decide +kernel
theorem dX6_digest_83 : decode cX6_digest 83 = .ok (.i2l, 1) := by decide +kernel
theorem dX6_digest_84 : decode cX6_digest 84 = .ok (.ladd, 1) := by decide +kernel
theorem dX6_digest_85 : decode cX6_digest 85 = .ok (.lstore_n 1, 1) := by decide +kernel
theorem dX6_digest_86 : decode cX6_digest 86 = .ok (.iconst 0, 1) := by decide +kernel
theorem dX6_digest_87 : decode cX6_digest 87 = .ok (.istore 4, 2) := by decide +kernel
theorem dX6_digest_89 : decode cX6_digest 89 = .ok (.iload 4, 2) := by decide +kernel
theorem dX6_digest_91 : decode cX6_digest 91 = .ok (.iconst 4, 1) := by decide +kernel
theorem dX6_digest_92 : decode cX6_digest 92 = .ok (.if_icmp .gt 24, 3) := by decide +kernel
theorem dX6_digest_95 : decode cX6_digest 95 = .ok (.ldc2_w 189, 3) := by decide +kernel
theorem dX6_digest_98 : decode cX6_digest 98 = .ok (.lload_n 1, 1) := by decide +kernel
theorem dX6_digest_99 : decode cX6_digest 99 = .ok (.lmul, 1) := by decide +kernel
theorem dX6_digest_100 : decode cX6_digest 100 = .ok (.aload_n 0, 1) := by decide +kernel
theorem dX6_digest_101 : decode cX6_digest 101 = .ok (.iload_n 3, 1) := by decide +kernel
theorem dX6_digest_102 : decode cX6_digest 102 = .ok (.iload 4, 2) := by decide +kernel
theorem dX6_digest_104 : decode cX6_digest 104 = .ok (.invokevirtual 175, 3) := by decide +kernel
theorem dX6_digest_107 : decode cX6_digest 107 = .ok (.i2l, 1) := by decide +kernel
theorem dX6_digest_108 : decode cX6_digest 108 = .ok (.ladd, 1) := by decide +kernel
theorem dX6_digest_109 : decode cX6_digest 109 = .ok (.lstore_n 1, 1) := by decide +kernel
theorem dX6_digest_110 : decode cX6_digest 110 = .ok (.iinc 4 1, 3) := by decide +kernel
theorem dX6_digest_113 : decode cX6_digest 113 = .ok (.goto (-24), 3) := by decide +kernel
theorem dX6_digest_116 : decode cX6_digest 116 = .ok (.iinc 3 1, 3) := by decide +kernel
theorem dX6_digest_119 : decode cX6_digest 119 = .ok (.goto (-65), 3) := by decide +kernel
theorem dX6_digest_122 : decode cX6_digest 122 = .ok (.iconst 0, 1) := by decide +kernel
theorem dX6_digest_123 : decode cX6_digest 123 = .ok (.istore_n 3, 1) := by decide +kernel
theorem dX6_digest_124 : decode cX6_digest 124 = .ok (.iload_n 3, 1) := by decide +kernel
theorem dX6_digest_125 : decode cX6_digest 125 = .ok (.aload_n 0, 1) := by decide +kernel
theorem dX6_digest_126 : decode cX6_digest 126 = .ok (.getfield 7, 3) := by decide +kernel
theorem dX6_digest_129 : decode cX6_digest 129 = .ok (.sipush 557, 3) := by decide +kernel
theorem dX6_digest_132 : decode cX6_digest 132 = .ok (.iaload, 1) := by decide +kernel
theorem dX6_digest_133 : decode cX6_digest 133 = .ok (.if_icmp .ge 31, 3) := by decide +kernel
theorem dX6_digest_136 : decode cX6_digest 136 = .ok (.ldc2_w 189, 3) := by decide +kernel
theorem dX6_digest_139 : decode cX6_digest 139 = .ok (.lload_n 1, 1) := by decide +kernel
theorem dX6_digest_140 : decode cX6_digest 140 = .ok (.lmul, 1) := by decide +kernel
theorem dX6_digest_141 : decode cX6_digest 141 = .ok (.aload_n 0, 1) := by decide +kernel
theorem dX6_digest_142 : decode cX6_digest 142 = .ok (.aload_n 0, 1) := by decide +kernel
theorem dX6_digest_143 : decode cX6_digest 143 = .ok (.getfield 7, 3) := by decide +kernel
theorem dX6_digest_146 : decode cX6_digest 146 = .ok (.sipush 558, 3) := by decide +kernel
theorem dX6_digest_149 : decode cX6_digest 149 = .ok (.iload_n 3, 1) := by decide +kernel
theorem dX6_digest_150 : decode cX6_digest 150 = .ok (.iadd, 1) := by decide +kernel
theorem dX6_digest_151 : decode cX6_digest 151 = .ok (.iaload, 1) := by decide +kernel
theorem dX6_digest_152 : decode cX6_digest 152 = .ok (.invokevirtual 178, 3) := by decide +kernel
theorem dX6_digest_155 : decode cX6_digest 155 = .ok (.i2l, 1) := by decide +kernel
theorem dX6_digest_156 : decode cX6_digest 156 = .ok (.ladd, 1) := by decide +kernel
theorem dX6_digest_157 : decode cX6_digest 157 = .ok (.lstore_n 1, 1) := by decide +kernel
theorem dX6_digest_158 : decode cX6_digest 158 = .ok (.iinc 3 1, 3) := by decide +kernel
theorem dX6_digest_161 : decode cX6_digest 161 = .ok (.goto (-37), 3) := by decide +kernel
theorem dX6_digest_164 : decode cX6_digest 164 = .ok (.iconst 0, 1) := by decide +kernel
theorem dX6_digest_165 : decode cX6_digest 165 = .ok (.istore_n 3, 1) := by decide +kernel
theorem dX6_digest_166 : decode cX6_digest 166 = .ok (.iload_n 3, 1) := by decide +kernel
theorem dX6_digest_167 : decode cX6_digest 167 = .ok (.aload_n 0, 1) := by decide +kernel
theorem dX6_digest_168 : decode cX6_digest 168 = .ok (.getfield 7, 3) := by decide +kernel
theorem dX6_digest_171 : decode cX6_digest 171 = .ok (.sipush 574, 3) := by decide +kernel
theorem dX6_digest_174 : decode cX6_digest 174 = .ok (.iaload, 1) := by decide +kernel
theorem dX6_digest_175 : decode cX6_digest 175 = .ok (.if_icmp .ge 31, 3) := by decide +kernel
theorem dX6_digest_178 : decode cX6_digest 178 = .ok (.ldc2_w 189, 3) := by decide +kernel
theorem dX6_digest_181 : decode cX6_digest 181 = .ok (.lload_n 1, 1) := by decide +kernel
theorem dX6_digest_182 : decode cX6_digest 182 = .ok (.lmul, 1) := by decide +kernel
theorem dX6_digest_183 : decode cX6_digest 183 = .ok (.aload_n 0, 1) := by decide +kernel
theorem dX6_digest_184 : decode cX6_digest 184 = .ok (.aload_n 0, 1) := by decide +kernel
theorem dX6_digest_185 : decode cX6_digest 185 = .ok (.getfield 7, 3) := by decide +kernel
theorem dX6_digest_188 : decode cX6_digest 188 = .ok (.sipush 575, 3) := by decide +kernel
theorem dX6_digest_191 : decode cX6_digest 191 = .ok (.iload_n 3, 1) := by decide +kernel
theorem dX6_digest_192 : decode cX6_digest 192 = .ok (.iadd, 1) := by decide +kernel
theorem dX6_digest_193 : decode cX6_digest 193 = .ok (.iaload, 1) := by decide +kernel
theorem dX6_digest_194 : decode cX6_digest 194 = .ok (.invokevirtual 178, 3) := by decide +kernel
theorem dX6_digest_197 : decode cX6_digest 197 = .ok (.i2l, 1) := by decide +kernel
theorem dX6_digest_198 : decode cX6_digest 198 = .ok (.ladd, 1) := by decide +kernel
theorem dX6_digest_199 : decode cX6_digest 199 = .ok (.lstore_n 1, 1) := by decide +kernel
theorem dX6_digest_200 : decode cX6_digest 200 = .ok (.iinc 3 1, 3) := by decide +kernel
theorem dX6_digest_203 : decode cX6_digest 203 = .ok (.goto (-37), 3) := by decide +kernel
theorem dX6_digest_206 : decode cX6_digest 206 = .ok (.iconst 0, 1) := by decide +kernel
theorem dX6_digest_207 : decode cX6_digest 207 = .ok (.istore_n 3, 1) := by decide +kernel
theorem dX6_digest_208 : decode cX6_digest 208 = .ok (.iload_n 3, 1) := by decide +kernel
theorem dX6_digest_209 : decode cX6_digest 209 = .ok (.iconst 4, 1) := by decide +kernel
theorem dX6_digest_210 : decode cX6_digest 210 = .ok (.if_icmp .ge 31, 3) := by decide +kernel
theorem dX6_digest_213 : decode cX6_digest 213 = .ok (.ldc2_w 189, 3) := by decide +kernel
theorem dX6_digest_216 : decode cX6_digest 216 = .ok (.lload_n 1, 1) := by decide +kernel
theorem dX6_digest_217 : decode cX6_digest 217 = .ok (.lmul, 1) := by decide +kernel
theorem dX6_digest_218 : decode cX6_digest 218 = .ok (.aload_n 0, 1) := by decide +kernel
theorem dX6_digest_219 : decode cX6_digest 219 = .ok (.aload_n 0, 1) := by decide +kernel
theorem dX6_digest_220 : decode cX6_digest 220 = .ok (.getfield 7, 3) := by decide +kernel
theorem dX6_digest_223 : decode cX6_digest 223 = .ok (.sipush 591, 3) := by decide +kernel
theorem dX6_digest_226 : decode cX6_digest 226 = .ok (.iload_n 3, 1) := by decide +kernel
theorem dX6_digest_227 : decode cX6_digest 227 = .ok (.iadd, 1) := by decide +kernel
theorem dX6_digest_228 : decode cX6_digest 228 = .ok (.iaload, 1) := by decide +kernel
theorem dX6_digest_229 : decode cX6_digest 229 = .ok (.invokevirtual 178, 3) := by decide +kernel
theorem dX6_digest_232 : decode cX6_digest 232 = .ok (.i2l, 1) := by decide +kernel
theorem dX6_digest_233 : decode cX6_digest 233 = .ok (.ladd, 1) := by decide +kernel
theorem dX6_digest_234 : decode cX6_digest 234 = .ok (.lstore_n 1, 1) := by decide +kernel
theorem dX6_digest_235 : decode cX6_digest 235 = .ok (.iinc 3 1, 3) := by decide +kernel
theorem dX6_digest_238 : decode cX6_digest 238 = .ok (.goto (-30), 3) := by decide +kernel
theorem dX6_digest_241 : decode cX6_digest 241 = .ok (.iconst 0, 1) := by decide +kernel
theorem dX6_digest_242 : decode cX6_digest 242 = .ok (.istore_n 3, 1) := by decide +kernel
theorem dX6_digest_243 : decode cX6_digest 243 = .ok (.iload_n 3, 1) := by decide +kernel
theorem dX6_digest_244 : decode cX6_digest 244 = .ok (.iconst 4, 1) := by decide +kernel
theorem dX6_digest_245 : decode cX6_digest 245 = .ok (.if_icmp .ge 31, 3) := by decide +kernel
theorem dX6_digest_248 : decode cX6_digest 248 = .ok (.ldc2_w 189, 3) := by decide +kernel
theorem dX6_digest_251 : decode cX6_digest 251 = .ok (.lload_n 1, 1) := by decide +kernel
theorem dX6_digest_252 : decode cX6_digest 252 = .ok (.lmul, 1) := by decide +kernel
theorem dX6_digest_253 : decode cX6_digest 253 = .ok (.aload_n 0, 1) := by decide +kernel
theorem dX6_digest_254 : decode cX6_digest 254 = .ok (.aload_n 0, 1) := by decide +kernel
theorem dX6_digest_255 : decode cX6_digest 255 = .ok (.getfield 7, 3) := by decide +kernel
theorem dX6_digest_258 : decode cX6_digest 258 = .ok (.sipush 595, 3) := by decide +kernel
theorem dX6_digest_261 : decode cX6_digest 261 = .ok (.iload_n 3, 1) := by decide +kernel
theorem dX6_digest_262 : decode cX6_digest 262 = .ok (.iadd, 1) := by decide +kernel
theorem dX6_digest_263 : decode cX6_digest 263 = .ok (.iaload, 1) := by decide +kernel
theorem dX6_digest_264 : decode cX6_digest 264 = .ok (.invokevirtual 178, 3) := by decide +kernel
theorem dX6_digest_267 : decode cX6_digest 267 = .ok (.i2l, 1) := by decide +kernel
theorem dX6_digest_268 : decode cX6_digest 268 = .ok (.ladd, 1) := by decide +kernel
theorem dX6_digest_269 : decode cX6_digest 269 = .ok (.lstore_n 1, 1) := by decide +kernel
theorem dX6_digest_270 : decode cX6_digest 270 = .ok (.iinc 3 1, 3) := by decide +kernel
theorem dX6_digest_273 : decode cX6_digest 273 = .ok (.goto (-30), 3) := by decide +kernel
theorem dX6_digest_276 : decode cX6_digest 276 = .ok (.ldc2_w 189, 3) := by decide +kernel
theorem dX6_digest_279 : decode cX6_digest 279 = .ok (.lload_n 1, 1) := by decide +kernel
theorem dX6_digest_280 : decode cX6_digest 280 = .ok (.lmul, 1) := by decide +kernel
theorem dX6_digest_281 : decode cX6_digest 281 = .ok (.aload_n 0, 1) := by decide +kernel
theorem dX6_digest_282 : decode cX6_digest 282 = .ok (.invokevirtual 200, 3) := by decide +kernel
theorem dX6_digest_285 : decode cX6_digest 285 = .ok (.i2l, 1) := by decide +kernel
theorem dX6_digest_286 : decode cX6_digest 286 = .ok (.ladd, 1) := by decide +kernel
theorem dX6_digest_287 : decode cX6_digest 287 = .ok (.lreturn, 1) := by decide +kernel
def bfX6_digest_243 (S : MS) (K243 : Int64 × Int32 → Option (Int64)) (x : Int64 × Int32) : Option (Int64) :=
  match x with
  | (x1, x3) => (if (4 : Int32) ≤ x3 then ob (fX6_amplification  S) fun u17 => some (((31 : Int64) * x1) + (u17).toInt64) else (if okI ((595 : Int32) + x3) 5130 then ob (fX6_ownerOf ((S.1 (((595 : Int32) + x3)).toNatClampNeg)) S) fun u18 => nm ((((31 : Int64) * x1) + (u18).toInt64)) fun v19 => K243 (v19, (x3 + (1 : Int32))) else none))
def bfX6_digest_208 (S : MS) (K208 : Int64 × Int32 → Option (Int64)) (x : Int64 × Int32) : Option (Int64) :=
  match x with
  | (x1, x3) => (if (4 : Int32) ≤ x3 then iter (bfX6_digest_243 S) FU (x1, (0 : Int32)) else (if okI ((591 : Int32) + x3) 5130 then ob (fX6_ownerOf ((S.1 (((591 : Int32) + x3)).toNatClampNeg)) S) fun u20 => nm ((((31 : Int64) * x1) + (u20).toInt64)) fun v21 => K208 (v21, (x3 + (1 : Int32))) else none))
def bfX6_digest_166 (S : MS) (K166 : Int64 × Int32 → Option (Int64)) (x : Int64 × Int32) : Option (Int64) :=
  match x with
  | (x1, x3) => (if (S.1 ((574 : Int32)).toNatClampNeg) ≤ x3 then iter (bfX6_digest_208 S) FU (x1, (0 : Int32)) else (if okI ((575 : Int32) + x3) 5130 then ob (fX6_ownerOf ((S.1 (((575 : Int32) + x3)).toNatClampNeg)) S) fun u22 => nm ((((31 : Int64) * x1) + (u22).toInt64)) fun v23 => K166 (v23, (x3 + (1 : Int32))) else none))
def bfX6_digest_124 (S : MS) (K124 : Int64 × Int32 → Option (Int64)) (x : Int64 × Int32) : Option (Int64) :=
  match x with
  | (x1, x3) => (if (S.1 ((557 : Int32)).toNatClampNeg) ≤ x3 then iter (bfX6_digest_166 S) FU (x1, (0 : Int32)) else (if okI ((558 : Int32) + x3) 5130 then ob (fX6_ownerOf ((S.1 (((558 : Int32) + x3)).toNatClampNeg)) S) fun u24 => nm ((((31 : Int64) * x1) + (u24).toInt64)) fun v25 => K124 (v25, (x3 + (1 : Int32))) else none))
def bfX6_digest_89 (S : MS) (K54 : Int64 × Int32 → Option (Int64)) (K89 : Int64 × Int32 × Int32 → Option (Int64)) (x : Int64 × Int32 × Int32) : Option (Int64) :=
  match x with
  | (x1, x3, x4) => (if (4 : Int32) < x4 then K54 (x1, (x3 + (1 : Int32))) else ob (fX6_propertyOf x3 x4 S) fun u26 => nm ((((31 : Int64) * x1) + (u26).toInt64)) fun v27 => K89 (v27, x3, (x4 + (1 : Int32))))
def bfX6_digest_54 (S : MS) (K54 : Int64 × Int32 → Option (Int64)) (x : Int64 × Int32) : Option (Int64) :=
  match x with
  | (x1, x3) => (if (S.1 ((188 : Int32)).toNatClampNeg) ≤ x3 then iter (bfX6_digest_124 S) FU (x1, (0 : Int32)) else ob (fX6_row x3 S) fun u28 => (if okI (u28 + (0 : Int32)) 5130 then nm ((((31 : Int64) * x1) + ((S.1 ((u28 + (0 : Int32))).toNatClampNeg)).toInt64)) fun v29 => iter (bfX6_digest_89 S K54) FU (v29, x3, (0 : Int32)) else none))
def bfX6_digest_33 (S : MS) (K33 : Int64 × Int32 → Option (Int64)) (x : Int64 × Int32) : Option (Int64) :=
  match x with
  | (x1, x3) => (if (6 : Int32) ≤ x3 then iter (bfX6_digest_54 S) FU (x1, (0 : Int32)) else ob (fX6_mixedClient x1 x3 S) fun u30 => K33 (u30, (x3 + (1 : Int32))))
def bfX6_digest_6 (S : MS) (K6 : Int64 × Int32 → Option (Int64)) (x : Int64 × Int32) : Option (Int64) :=
  match x with
  | (x1, x3) => (if (12 : Int32) < x3 then iter (bfX6_digest_33 S) FU (x1, (0 : Int32)) else ob (fX6_told x3 S) fun u31 => nm ((((31 : Int64) * x1) + (u31).toInt64)) fun v32 => K6 (v32, (x3 + (1 : Int32))))
def fX6_digest (S : MS) : Option (Int64) :=
  iter (bfX6_digest_6 S) FU ((18520 : Int64), (0 : Int32))
set_option maxHeartbeats 4000000 in
set_option maxRecDepth 100000 in
theorem kX6_digest (l : Launch) (D : va_G) (cI cS : ClassId) (aM : Nat → Nat) (S : MS) {q : Int64} (h : fX6_digest S = some q) : Mc l D (tyL cI cS) false yX6_digest cX6_digest 5 (some .long) 4 [.ref (aM 0)] (wM cI aM S) (some (.long q)) (wM cI aM S) := by
  refine Mc_of RX6 (by decide +kernel) rfl wc_X6_digest (Nat.le_of_ble_eq_true rfl) ?_
  intro p e s m args below meth c A Q ls C hA hz hP hD hS hl RET
  have RETh : ∀ {pc : Nat} {ls : Array Slot} {H : Heap} {locs : List Loc} {x : Int64} , decode cX6_digest pc = .ok (.lreturn, 1) → some x = some q → va_P D vwCl (wM cI aM S) H → va_D A (wM cI aM S) → va_S A s.heap H locs → W p l e (rmL 4) s m args below meth c H locs 0 0 Q (F0 m pc ls [.long x]) := by
    intro pc ls H locs x hd h hP hD hS; cases h; exact RET (x_lret C hd) hP hD hS
  have B243 : ∀ (n : Nat) (x : Int64 × Int32), iter (bfX6_digest_243 S) n x = some q → (match x with | (x1, x3) => ∀ (H : Heap) (locs : List Loc) (ls : Array Slot), va_P D vwCl (wM cI aM S) H → va_D A (wM cI aM S) → va_S A s.heap H locs → lv_has ls 5 [(0, .ref (aM 0)), (1, .long x1), (3, .int x3)] → W p l e (rmL 4) s m args below meth c H locs 0 0 Q (F0 m 243 ls [])) := by
    refine iter_ind (fun x : Int64 × Int32 => (match x with | (x1, x3) => ∀ (H : Heap) (locs : List Loc) (ls : Array Slot), va_P D vwCl (wM cI aM S) H → va_D A (wM cI aM S) → va_S A s.heap H locs → lv_has ls 5 [(0, .ref (aM 0)), (1, .long x1), (3, .int x3)] → W p l e (rmL 4) s m args below meth c H locs 0 0 Q (F0 m 243 ls []))) ?_
    intro K243 ih243 x h
    obtain ⟨x1, x3⟩ := x
    intro H locs ls hP hD hS hl
    refine x_iload_n C dX6_digest_243 rfl hl 2 rfl ?_
    refine x_iconst (v := (4 : Int32)) C dX6_digest_244 (by decide) ?_
    refine x_icmp_ge (tgt := 276) C h dX6_digest_245 (by decide) (fun h => ?_) (fun h => ?_)
    · refine x_ldc2 C wq_X6_189 dX6_digest_276 ?_
      refine x_lload_n C dX6_digest_279 rfl hl 1 rfl ?_
      refine x_lmul C dX6_digest_280 ?_
      refine x_aload_n C dX6_digest_281 rfl hl 0 rfl ?_
      obtain ⟨u17, hu17, h⟩ := ob_some h
      refine x_callV (As := []) (n := 0) C (kX6_amplification l D cI cS aM  _ hu17) (fun hh => nomatch hh) wm_X6_200 wi_X6_amplification we_X6_amplification wz_X6 wc_X6_amplification (by decide +kernel) rfl hP hD hS hA 0 3 rfl rfl rfl hl.1 dX6_digest_282 rfl (Nat.le_of_ble_eq_true rfl) ⟨Nat.le_of_ble_eq_true rfl, Nat.le_of_ble_eq_true rfl⟩ ⟨Nat.zero_le _, Nat.zero_le _⟩ (fun H locs hP hD hS => ?_)
      refine x_i2l C dX6_digest_285 ?_
      refine x_ladd C dX6_digest_286 ?_
      exact RETh dX6_digest_287 h hP hD hS
    · refine x_ldc2 C wq_X6_189 dX6_digest_248 ?_
      refine x_lload_n C dX6_digest_251 rfl hl 1 rfl ?_
      refine x_lmul C dX6_digest_252 ?_
      refine x_aload_n C dX6_digest_253 rfl hl 0 rfl ?_
      refine x_aload_n C dX6_digest_254 rfl hl 0 rfl ?_
      refine x_get C inX6 hP 0 rfl rfl 0 (by decide) wf_X6_7 rfl dX6_digest_255 ?_
      refine x_sipush (v := (595 : Int32)) C dX6_digest_258 (by decide) ?_
      refine x_iload_n C dX6_digest_261 rfl hl 2 rfl ?_
      refine x_iadd C dX6_digest_262 ?_
      refine x_iald C h hP 1 rfl (t0 := 0) rfl dX6_digest_263 (fun h => ?_)
      obtain ⟨u18, hu18, h⟩ := ob_some h
      refine x_callV (As := [.int _]) (n := 1) C (kX6_ownerOf l D cI cS aM _ _ hu18) (fun hh => nomatch hh) wm_X6_178 wi_X6_ownerOf we_X6_ownerOf wz_X6 wc_X6_ownerOf (by decide +kernel) rfl hP hD hS hA 0 3 rfl rfl rfl hl.1 dX6_digest_264 rfl (Nat.le_of_ble_eq_true rfl) ⟨Nat.le_of_ble_eq_true rfl, Nat.le_of_ble_eq_true rfl⟩ ⟨Nat.zero_le _, Nat.zero_le _⟩ (fun H locs hP hD hS => ?_)
      refine x_i2l C dX6_digest_267 ?_
      refine x_ladd C dX6_digest_268 ?_
      refine x_nml h (fun v19 h => ?_)
      refine x_lstore_n (lv' := [(1, .long v19), (0, .ref (aM 0)), (3, .int x3)]) C dX6_digest_269 rfl hl (by decide) rfl (fun ls hl => ?_)
      refine x_iinc (v := (x3 + (1 : Int32))) (lv' := [(3, .int (x3 + (1 : Int32))), (1, .long v19), (0, .ref (aM 0))]) C dX6_digest_270 hl (k := 2) rfl rfl (by decide) rfl (fun ls hl => ?_)
      refine x_goto (tgt := 243) C dX6_digest_273 (by decide) ?_
      exact ih243 _ h _ _ _ hP hD hS (lv_sub hl [2, 1, 0] rfl)
  have B208 : ∀ (n : Nat) (x : Int64 × Int32), iter (bfX6_digest_208 S) n x = some q → (match x with | (x1, x3) => ∀ (H : Heap) (locs : List Loc) (ls : Array Slot), va_P D vwCl (wM cI aM S) H → va_D A (wM cI aM S) → va_S A s.heap H locs → lv_has ls 5 [(0, .ref (aM 0)), (1, .long x1), (3, .int x3)] → W p l e (rmL 4) s m args below meth c H locs 0 0 Q (F0 m 208 ls [])) := by
    refine iter_ind (fun x : Int64 × Int32 => (match x with | (x1, x3) => ∀ (H : Heap) (locs : List Loc) (ls : Array Slot), va_P D vwCl (wM cI aM S) H → va_D A (wM cI aM S) → va_S A s.heap H locs → lv_has ls 5 [(0, .ref (aM 0)), (1, .long x1), (3, .int x3)] → W p l e (rmL 4) s m args below meth c H locs 0 0 Q (F0 m 208 ls []))) ?_
    intro K208 ih208 x h
    obtain ⟨x1, x3⟩ := x
    intro H locs ls hP hD hS hl
    refine x_iload_n C dX6_digest_208 rfl hl 2 rfl ?_
    refine x_iconst (v := (4 : Int32)) C dX6_digest_209 (by decide) ?_
    refine x_icmp_ge (tgt := 241) C h dX6_digest_210 (by decide) (fun h => ?_) (fun h => ?_)
    · refine x_iconst (v := (0 : Int32)) C dX6_digest_241 (by decide) ?_
      refine x_istore_n (lv' := [(3, .int (0 : Int32)), (0, .ref (aM 0)), (1, .long x1)]) C dX6_digest_242 rfl hl (by decide) rfl (fun ls hl => ?_)
      exact B243 FU _ h _ _ _ hP hD hS (lv_sub hl [1, 2, 0] rfl)
    · refine x_ldc2 C wq_X6_189 dX6_digest_213 ?_
      refine x_lload_n C dX6_digest_216 rfl hl 1 rfl ?_
      refine x_lmul C dX6_digest_217 ?_
      refine x_aload_n C dX6_digest_218 rfl hl 0 rfl ?_
      refine x_aload_n C dX6_digest_219 rfl hl 0 rfl ?_
      refine x_get C inX6 hP 0 rfl rfl 0 (by decide) wf_X6_7 rfl dX6_digest_220 ?_
      refine x_sipush (v := (591 : Int32)) C dX6_digest_223 (by decide) ?_
      refine x_iload_n C dX6_digest_226 rfl hl 2 rfl ?_
      refine x_iadd C dX6_digest_227 ?_
      refine x_iald C h hP 1 rfl (t0 := 0) rfl dX6_digest_228 (fun h => ?_)
      obtain ⟨u20, hu20, h⟩ := ob_some h
      refine x_callV (As := [.int _]) (n := 1) C (kX6_ownerOf l D cI cS aM _ _ hu20) (fun hh => nomatch hh) wm_X6_178 wi_X6_ownerOf we_X6_ownerOf wz_X6 wc_X6_ownerOf (by decide +kernel) rfl hP hD hS hA 0 3 rfl rfl rfl hl.1 dX6_digest_229 rfl (Nat.le_of_ble_eq_true rfl) ⟨Nat.le_of_ble_eq_true rfl, Nat.le_of_ble_eq_true rfl⟩ ⟨Nat.zero_le _, Nat.zero_le _⟩ (fun H locs hP hD hS => ?_)
      refine x_i2l C dX6_digest_232 ?_
      refine x_ladd C dX6_digest_233 ?_
      refine x_nml h (fun v21 h => ?_)
      refine x_lstore_n (lv' := [(1, .long v21), (0, .ref (aM 0)), (3, .int x3)]) C dX6_digest_234 rfl hl (by decide) rfl (fun ls hl => ?_)
      refine x_iinc (v := (x3 + (1 : Int32))) (lv' := [(3, .int (x3 + (1 : Int32))), (1, .long v21), (0, .ref (aM 0))]) C dX6_digest_235 hl (k := 2) rfl rfl (by decide) rfl (fun ls hl => ?_)
      refine x_goto (tgt := 208) C dX6_digest_238 (by decide) ?_
      exact ih208 _ h _ _ _ hP hD hS (lv_sub hl [2, 1, 0] rfl)
  have B166 : ∀ (n : Nat) (x : Int64 × Int32), iter (bfX6_digest_166 S) n x = some q → (match x with | (x1, x3) => ∀ (H : Heap) (locs : List Loc) (ls : Array Slot), va_P D vwCl (wM cI aM S) H → va_D A (wM cI aM S) → va_S A s.heap H locs → lv_has ls 5 [(0, .ref (aM 0)), (1, .long x1), (3, .int x3)] → W p l e (rmL 4) s m args below meth c H locs 0 0 Q (F0 m 166 ls [])) := by
    refine iter_ind (fun x : Int64 × Int32 => (match x with | (x1, x3) => ∀ (H : Heap) (locs : List Loc) (ls : Array Slot), va_P D vwCl (wM cI aM S) H → va_D A (wM cI aM S) → va_S A s.heap H locs → lv_has ls 5 [(0, .ref (aM 0)), (1, .long x1), (3, .int x3)] → W p l e (rmL 4) s m args below meth c H locs 0 0 Q (F0 m 166 ls []))) ?_
    intro K166 ih166 x h
    obtain ⟨x1, x3⟩ := x
    intro H locs ls hP hD hS hl
    refine x_iload_n C dX6_digest_166 rfl hl 2 rfl ?_
    refine x_aload_n C dX6_digest_167 rfl hl 0 rfl ?_
    refine x_get C inX6 hP 0 rfl rfl 0 (by decide) wf_X6_7 rfl dX6_digest_168 ?_
    refine x_sipush (v := (574 : Int32)) C dX6_digest_171 (by decide) ?_
    refine x_ialdK C (by decide) hP 1 rfl (t0 := 0) rfl dX6_digest_174 ?_
    refine x_icmp_ge (tgt := 206) C h dX6_digest_175 (by decide) (fun h => ?_) (fun h => ?_)
    · refine x_iconst (v := (0 : Int32)) C dX6_digest_206 (by decide) ?_
      refine x_istore_n (lv' := [(3, .int (0 : Int32)), (0, .ref (aM 0)), (1, .long x1)]) C dX6_digest_207 rfl hl (by decide) rfl (fun ls hl => ?_)
      exact B208 FU _ h _ _ _ hP hD hS (lv_sub hl [1, 2, 0] rfl)
    · refine x_ldc2 C wq_X6_189 dX6_digest_178 ?_
      refine x_lload_n C dX6_digest_181 rfl hl 1 rfl ?_
      refine x_lmul C dX6_digest_182 ?_
      refine x_aload_n C dX6_digest_183 rfl hl 0 rfl ?_
      refine x_aload_n C dX6_digest_184 rfl hl 0 rfl ?_
      refine x_get C inX6 hP 0 rfl rfl 0 (by decide) wf_X6_7 rfl dX6_digest_185 ?_
      refine x_sipush (v := (575 : Int32)) C dX6_digest_188 (by decide) ?_
      refine x_iload_n C dX6_digest_191 rfl hl 2 rfl ?_
      refine x_iadd C dX6_digest_192 ?_
      refine x_iald C h hP 1 rfl (t0 := 0) rfl dX6_digest_193 (fun h => ?_)
      obtain ⟨u22, hu22, h⟩ := ob_some h
      refine x_callV (As := [.int _]) (n := 1) C (kX6_ownerOf l D cI cS aM _ _ hu22) (fun hh => nomatch hh) wm_X6_178 wi_X6_ownerOf we_X6_ownerOf wz_X6 wc_X6_ownerOf (by decide +kernel) rfl hP hD hS hA 0 3 rfl rfl rfl hl.1 dX6_digest_194 rfl (Nat.le_of_ble_eq_true rfl) ⟨Nat.le_of_ble_eq_true rfl, Nat.le_of_ble_eq_true rfl⟩ ⟨Nat.zero_le _, Nat.zero_le _⟩ (fun H locs hP hD hS => ?_)
      refine x_i2l C dX6_digest_197 ?_
      refine x_ladd C dX6_digest_198 ?_
      refine x_nml h (fun v23 h => ?_)
      refine x_lstore_n (lv' := [(1, .long v23), (0, .ref (aM 0)), (3, .int x3)]) C dX6_digest_199 rfl hl (by decide) rfl (fun ls hl => ?_)
      refine x_iinc (v := (x3 + (1 : Int32))) (lv' := [(3, .int (x3 + (1 : Int32))), (1, .long v23), (0, .ref (aM 0))]) C dX6_digest_200 hl (k := 2) rfl rfl (by decide) rfl (fun ls hl => ?_)
      refine x_goto (tgt := 166) C dX6_digest_203 (by decide) ?_
      exact ih166 _ h _ _ _ hP hD hS (lv_sub hl [2, 1, 0] rfl)
  have B124 : ∀ (n : Nat) (x : Int64 × Int32), iter (bfX6_digest_124 S) n x = some q → (match x with | (x1, x3) => ∀ (H : Heap) (locs : List Loc) (ls : Array Slot), va_P D vwCl (wM cI aM S) H → va_D A (wM cI aM S) → va_S A s.heap H locs → lv_has ls 5 [(0, .ref (aM 0)), (1, .long x1), (3, .int x3)] → W p l e (rmL 4) s m args below meth c H locs 0 0 Q (F0 m 124 ls [])) := by
    refine iter_ind (fun x : Int64 × Int32 => (match x with | (x1, x3) => ∀ (H : Heap) (locs : List Loc) (ls : Array Slot), va_P D vwCl (wM cI aM S) H → va_D A (wM cI aM S) → va_S A s.heap H locs → lv_has ls 5 [(0, .ref (aM 0)), (1, .long x1), (3, .int x3)] → W p l e (rmL 4) s m args below meth c H locs 0 0 Q (F0 m 124 ls []))) ?_
    intro K124 ih124 x h
    obtain ⟨x1, x3⟩ := x
    intro H locs ls hP hD hS hl
    refine x_iload_n C dX6_digest_124 rfl hl 2 rfl ?_
    refine x_aload_n C dX6_digest_125 rfl hl 0 rfl ?_
    refine x_get C inX6 hP 0 rfl rfl 0 (by decide) wf_X6_7 rfl dX6_digest_126 ?_
    refine x_sipush (v := (557 : Int32)) C dX6_digest_129 (by decide) ?_
    refine x_ialdK C (by decide) hP 1 rfl (t0 := 0) rfl dX6_digest_132 ?_
    refine x_icmp_ge (tgt := 164) C h dX6_digest_133 (by decide) (fun h => ?_) (fun h => ?_)
    · refine x_iconst (v := (0 : Int32)) C dX6_digest_164 (by decide) ?_
      refine x_istore_n (lv' := [(3, .int (0 : Int32)), (0, .ref (aM 0)), (1, .long x1)]) C dX6_digest_165 rfl hl (by decide) rfl (fun ls hl => ?_)
      exact B166 FU _ h _ _ _ hP hD hS (lv_sub hl [1, 2, 0] rfl)
    · refine x_ldc2 C wq_X6_189 dX6_digest_136 ?_
      refine x_lload_n C dX6_digest_139 rfl hl 1 rfl ?_
      refine x_lmul C dX6_digest_140 ?_
      refine x_aload_n C dX6_digest_141 rfl hl 0 rfl ?_
      refine x_aload_n C dX6_digest_142 rfl hl 0 rfl ?_
      refine x_get C inX6 hP 0 rfl rfl 0 (by decide) wf_X6_7 rfl dX6_digest_143 ?_
      refine x_sipush (v := (558 : Int32)) C dX6_digest_146 (by decide) ?_
      refine x_iload_n C dX6_digest_149 rfl hl 2 rfl ?_
      refine x_iadd C dX6_digest_150 ?_
      refine x_iald C h hP 1 rfl (t0 := 0) rfl dX6_digest_151 (fun h => ?_)
      obtain ⟨u24, hu24, h⟩ := ob_some h
      refine x_callV (As := [.int _]) (n := 1) C (kX6_ownerOf l D cI cS aM _ _ hu24) (fun hh => nomatch hh) wm_X6_178 wi_X6_ownerOf we_X6_ownerOf wz_X6 wc_X6_ownerOf (by decide +kernel) rfl hP hD hS hA 0 3 rfl rfl rfl hl.1 dX6_digest_152 rfl (Nat.le_of_ble_eq_true rfl) ⟨Nat.le_of_ble_eq_true rfl, Nat.le_of_ble_eq_true rfl⟩ ⟨Nat.zero_le _, Nat.zero_le _⟩ (fun H locs hP hD hS => ?_)
      refine x_i2l C dX6_digest_155 ?_
      refine x_ladd C dX6_digest_156 ?_
      refine x_nml h (fun v25 h => ?_)
      refine x_lstore_n (lv' := [(1, .long v25), (0, .ref (aM 0)), (3, .int x3)]) C dX6_digest_157 rfl hl (by decide) rfl (fun ls hl => ?_)
      refine x_iinc (v := (x3 + (1 : Int32))) (lv' := [(3, .int (x3 + (1 : Int32))), (1, .long v25), (0, .ref (aM 0))]) C dX6_digest_158 hl (k := 2) rfl rfl (by decide) rfl (fun ls hl => ?_)
      refine x_goto (tgt := 124) C dX6_digest_161 (by decide) ?_
      exact ih124 _ h _ _ _ hP hD hS (lv_sub hl [2, 1, 0] rfl)
  have B89 : ∀ (K54 : Int64 × Int32 → Option (Int64)) (ih54 : ∀ x, K54 x = some q → (match x with | (x1, x3) => ∀ (H : Heap) (locs : List Loc) (ls : Array Slot), va_P D vwCl (wM cI aM S) H → va_D A (wM cI aM S) → va_S A s.heap H locs → lv_has ls 5 [(0, .ref (aM 0)), (1, .long x1), (3, .int x3)] → W p l e (rmL 4) s m args below meth c H locs 0 0 Q (F0 m 54 ls []))) (n : Nat) (x : Int64 × Int32 × Int32), iter (bfX6_digest_89 S K54) n x = some q → (match x with | (x1, x3, x4) => ∀ (H : Heap) (locs : List Loc) (ls : Array Slot), va_P D vwCl (wM cI aM S) H → va_D A (wM cI aM S) → va_S A s.heap H locs → lv_has ls 5 [(0, .ref (aM 0)), (1, .long x1), (3, .int x3), (4, .int x4)] → W p l e (rmL 4) s m args below meth c H locs 0 0 Q (F0 m 89 ls [])) := by
    intro K54 ih54
    refine iter_ind (fun x : Int64 × Int32 × Int32 => (match x with | (x1, x3, x4) => ∀ (H : Heap) (locs : List Loc) (ls : Array Slot), va_P D vwCl (wM cI aM S) H → va_D A (wM cI aM S) → va_S A s.heap H locs → lv_has ls 5 [(0, .ref (aM 0)), (1, .long x1), (3, .int x3), (4, .int x4)] → W p l e (rmL 4) s m args below meth c H locs 0 0 Q (F0 m 89 ls []))) ?_
    intro K89 ih89 x h
    obtain ⟨x1, x3, x4⟩ := x
    intro H locs ls hP hD hS hl
    refine x_iload C dX6_digest_89 hl 3 rfl ?_
    refine x_iconst (v := (4 : Int32)) C dX6_digest_91 (by decide) ?_
    refine x_icmp_gt (tgt := 116) C h dX6_digest_92 (by decide) (fun h => ?_) (fun h => ?_)
    · refine x_iinc (v := (x3 + (1 : Int32))) (lv' := [(3, .int (x3 + (1 : Int32))), (0, .ref (aM 0)), (1, .long x1), (4, .int x4)]) C dX6_digest_116 hl (k := 2) rfl rfl (by decide) rfl (fun ls hl => ?_)
      refine x_goto (tgt := 54) C dX6_digest_119 (by decide) ?_
      exact ih54 _ h _ _ _ hP hD hS (lv_sub hl [1, 2, 0] rfl)
    · refine x_ldc2 C wq_X6_189 dX6_digest_95 ?_
      refine x_lload_n C dX6_digest_98 rfl hl 1 rfl ?_
      refine x_lmul C dX6_digest_99 ?_
      refine x_aload_n C dX6_digest_100 rfl hl 0 rfl ?_
      refine x_iload_n C dX6_digest_101 rfl hl 2 rfl ?_
      refine x_iload C dX6_digest_102 hl 3 rfl ?_
      obtain ⟨u26, hu26, h⟩ := ob_some h
      refine x_callV (As := [.int _, .int _]) (n := 2) C (kX6_propertyOf l D cI cS aM _ _ _ hu26) (fun hh => nomatch hh) wm_X6_175 wi_X6_propertyOf we_X6_propertyOf wz_X6 wc_X6_propertyOf (by decide +kernel) rfl hP hD hS hA 0 3 rfl rfl rfl hl.1 dX6_digest_104 rfl (Nat.le_of_ble_eq_true rfl) ⟨Nat.le_of_ble_eq_true rfl, Nat.le_of_ble_eq_true rfl⟩ ⟨Nat.zero_le _, Nat.zero_le _⟩ (fun H locs hP hD hS => ?_)
      refine x_i2l C dX6_digest_107 ?_
      refine x_ladd C dX6_digest_108 ?_
      refine x_nml h (fun v27 h => ?_)
      refine x_lstore_n (lv' := [(1, .long v27), (0, .ref (aM 0)), (3, .int x3), (4, .int x4)]) C dX6_digest_109 rfl hl (by decide) rfl (fun ls hl => ?_)
      refine x_iinc (v := (x4 + (1 : Int32))) (lv' := [(4, .int (x4 + (1 : Int32))), (1, .long v27), (0, .ref (aM 0)), (3, .int x3)]) C dX6_digest_110 hl (k := 3) rfl rfl (by decide) rfl (fun ls hl => ?_)
      refine x_goto (tgt := 89) C dX6_digest_113 (by decide) ?_
      exact ih89 _ h _ _ _ hP hD hS (lv_sub hl [2, 1, 3, 0] rfl)
  have B54 : ∀ (n : Nat) (x : Int64 × Int32), iter (bfX6_digest_54 S) n x = some q → (match x with | (x1, x3) => ∀ (H : Heap) (locs : List Loc) (ls : Array Slot), va_P D vwCl (wM cI aM S) H → va_D A (wM cI aM S) → va_S A s.heap H locs → lv_has ls 5 [(0, .ref (aM 0)), (1, .long x1), (3, .int x3)] → W p l e (rmL 4) s m args below meth c H locs 0 0 Q (F0 m 54 ls [])) := by
    refine iter_ind (fun x : Int64 × Int32 => (match x with | (x1, x3) => ∀ (H : Heap) (locs : List Loc) (ls : Array Slot), va_P D vwCl (wM cI aM S) H → va_D A (wM cI aM S) → va_S A s.heap H locs → lv_has ls 5 [(0, .ref (aM 0)), (1, .long x1), (3, .int x3)] → W p l e (rmL 4) s m args below meth c H locs 0 0 Q (F0 m 54 ls []))) ?_
    intro K54 ih54 x h
    obtain ⟨x1, x3⟩ := x
    intro H locs ls hP hD hS hl
    refine x_iload_n C dX6_digest_54 rfl hl 2 rfl ?_
    refine x_aload_n C dX6_digest_55 rfl hl 0 rfl ?_
    refine x_get C inX6 hP 0 rfl rfl 0 (by decide) wf_X6_7 rfl dX6_digest_56 ?_
    refine x_sipush (v := (188 : Int32)) C dX6_digest_59 (by decide) ?_
    refine x_ialdK C (by decide) hP 1 rfl (t0 := 0) rfl dX6_digest_62 ?_
    refine x_icmp_ge (tgt := 122) C h dX6_digest_63 (by decide) (fun h => ?_) (fun h => ?_)
    · refine x_iconst (v := (0 : Int32)) C dX6_digest_122 (by decide) ?_
      refine x_istore_n (lv' := [(3, .int (0 : Int32)), (0, .ref (aM 0)), (1, .long x1)]) C dX6_digest_123 rfl hl (by decide) rfl (fun ls hl => ?_)
      exact B124 FU _ h _ _ _ hP hD hS (lv_sub hl [1, 2, 0] rfl)
    · refine x_ldc2 C wq_X6_189 dX6_digest_66 ?_
      refine x_lload_n C dX6_digest_69 rfl hl 1 rfl ?_
      refine x_lmul C dX6_digest_70 ?_
      refine x_aload_n C dX6_digest_71 rfl hl 0 rfl ?_
      refine x_get C inX6 hP 0 rfl rfl 0 (by decide) wf_X6_7 rfl dX6_digest_72 ?_
      refine x_aload_n C dX6_digest_75 rfl hl 0 rfl ?_
      refine x_iload_n C dX6_digest_76 rfl hl 2 rfl ?_
      obtain ⟨u28, hu28, h⟩ := ob_some h
      refine x_callV (As := [.int _]) (n := 1) C (kX6_row l D cI cS aM _ _ hu28) (fun hh => nomatch hh) wm_X6_48 wi_X6_row we_X6_row wz_X6 wc_X6_row (by decide +kernel) rfl hP hD hS hA 0 3 rfl rfl rfl hl.1 dX6_digest_77 rfl (Nat.le_of_ble_eq_true rfl) ⟨Nat.le_of_ble_eq_true rfl, Nat.le_of_ble_eq_true rfl⟩ ⟨Nat.zero_le _, Nat.zero_le _⟩ (fun H locs hP hD hS => ?_)
      refine x_iconst (v := (0 : Int32)) C dX6_digest_80 (by decide) ?_
      refine x_iadd C dX6_digest_81 ?_
      refine x_iald C h hP 1 rfl (t0 := 0) rfl dX6_digest_82 (fun h => ?_)
      refine x_i2l C dX6_digest_83 ?_
      refine x_ladd C dX6_digest_84 ?_
      refine x_nml h (fun v29 h => ?_)
      refine x_lstore_n (lv' := [(1, .long v29), (0, .ref (aM 0)), (3, .int x3)]) C dX6_digest_85 rfl hl (by decide) rfl (fun ls hl => ?_)
      refine x_iconst (v := (0 : Int32)) C dX6_digest_86 (by decide) ?_
      refine x_istore (lv' := [(4, .int (0 : Int32)), (1, .long v29), (0, .ref (aM 0)), (3, .int x3)]) C dX6_digest_87 hl (by decide) rfl (fun ls hl => ?_)
      exact B89 K54 ih54 FU _ h _ _ _ hP hD hS (lv_sub hl [2, 1, 3, 0] rfl)
  have B33 : ∀ (n : Nat) (x : Int64 × Int32), iter (bfX6_digest_33 S) n x = some q → (match x with | (x1, x3) => ∀ (H : Heap) (locs : List Loc) (ls : Array Slot), va_P D vwCl (wM cI aM S) H → va_D A (wM cI aM S) → va_S A s.heap H locs → lv_has ls 5 [(0, .ref (aM 0)), (1, .long x1), (3, .int x3)] → W p l e (rmL 4) s m args below meth c H locs 0 0 Q (F0 m 33 ls [])) := by
    refine iter_ind (fun x : Int64 × Int32 => (match x with | (x1, x3) => ∀ (H : Heap) (locs : List Loc) (ls : Array Slot), va_P D vwCl (wM cI aM S) H → va_D A (wM cI aM S) → va_S A s.heap H locs → lv_has ls 5 [(0, .ref (aM 0)), (1, .long x1), (3, .int x3)] → W p l e (rmL 4) s m args below meth c H locs 0 0 Q (F0 m 33 ls []))) ?_
    intro K33 ih33 x h
    obtain ⟨x1, x3⟩ := x
    intro H locs ls hP hD hS hl
    refine x_iload_n C dX6_digest_33 rfl hl 2 rfl ?_
    refine x_bipush (v := (6 : Int32)) C dX6_digest_34 (by decide) ?_
    refine x_icmp_ge (tgt := 52) C h dX6_digest_36 (by decide) (fun h => ?_) (fun h => ?_)
    · refine x_iconst (v := (0 : Int32)) C dX6_digest_52 (by decide) ?_
      refine x_istore_n (lv' := [(3, .int (0 : Int32)), (0, .ref (aM 0)), (1, .long x1)]) C dX6_digest_53 rfl hl (by decide) rfl (fun ls hl => ?_)
      exact B54 FU _ h _ _ _ hP hD hS (lv_sub hl [1, 2, 0] rfl)
    · refine x_aload_n C dX6_digest_39 rfl hl 0 rfl ?_
      refine x_lload_n C dX6_digest_40 rfl hl 1 rfl ?_
      refine x_iload_n C dX6_digest_41 rfl hl 2 rfl ?_
      obtain ⟨u30, hu30, h⟩ := ob_some h
      refine x_callV (As := [.long _, .int _]) (n := 2) C (kX6_mixedClient l D cI cS aM _ _ _ hu30) (fun hh => nomatch hh) wm_X6_196 wi_X6_mixedClient we_X6_mixedClient wz_X6 wc_X6_mixedClient (by decide +kernel) rfl hP hD hS hA 0 3 rfl rfl rfl hl.1 dX6_digest_42 rfl (Nat.le_of_ble_eq_true rfl) ⟨Nat.le_of_ble_eq_true rfl, Nat.le_of_ble_eq_true rfl⟩ ⟨Nat.zero_le _, Nat.zero_le _⟩ (fun H locs hP hD hS => ?_)
      refine x_lstore_n (lv' := [(1, .long u30), (0, .ref (aM 0)), (3, .int x3)]) C dX6_digest_45 rfl hl (by decide) rfl (fun ls hl => ?_)
      refine x_iinc (v := (x3 + (1 : Int32))) (lv' := [(3, .int (x3 + (1 : Int32))), (1, .long u30), (0, .ref (aM 0))]) C dX6_digest_46 hl (k := 2) rfl rfl (by decide) rfl (fun ls hl => ?_)
      refine x_goto (tgt := 33) C dX6_digest_49 (by decide) ?_
      exact ih33 _ h _ _ _ hP hD hS (lv_sub hl [2, 1, 0] rfl)
  have B6 : ∀ (n : Nat) (x : Int64 × Int32), iter (bfX6_digest_6 S) n x = some q → (match x with | (x1, x3) => ∀ (H : Heap) (locs : List Loc) (ls : Array Slot), va_P D vwCl (wM cI aM S) H → va_D A (wM cI aM S) → va_S A s.heap H locs → lv_has ls 5 [(0, .ref (aM 0)), (1, .long x1), (3, .int x3)] → W p l e (rmL 4) s m args below meth c H locs 0 0 Q (F0 m 6 ls [])) := by
    refine iter_ind (fun x : Int64 × Int32 => (match x with | (x1, x3) => ∀ (H : Heap) (locs : List Loc) (ls : Array Slot), va_P D vwCl (wM cI aM S) H → va_D A (wM cI aM S) → va_S A s.heap H locs → lv_has ls 5 [(0, .ref (aM 0)), (1, .long x1), (3, .int x3)] → W p l e (rmL 4) s m args below meth c H locs 0 0 Q (F0 m 6 ls []))) ?_
    intro K6 ih6 x h
    obtain ⟨x1, x3⟩ := x
    intro H locs ls hP hD hS hl
    refine x_iload_n C dX6_digest_6 rfl hl 2 rfl ?_
    refine x_bipush (v := (12 : Int32)) C dX6_digest_7 (by decide) ?_
    refine x_icmp_gt (tgt := 31) C h dX6_digest_9 (by decide) (fun h => ?_) (fun h => ?_)
    · refine x_iconst (v := (0 : Int32)) C dX6_digest_31 (by decide) ?_
      refine x_istore_n (lv' := [(3, .int (0 : Int32)), (0, .ref (aM 0)), (1, .long x1)]) C dX6_digest_32 rfl hl (by decide) rfl (fun ls hl => ?_)
      exact B33 FU _ h _ _ _ hP hD hS (lv_sub hl [1, 2, 0] rfl)
    · refine x_ldc2 C wq_X6_189 dX6_digest_12 ?_
      refine x_lload_n C dX6_digest_15 rfl hl 1 rfl ?_
      refine x_lmul C dX6_digest_16 ?_
      refine x_aload_n C dX6_digest_17 rfl hl 0 rfl ?_
      refine x_iload_n C dX6_digest_18 rfl hl 2 rfl ?_
      obtain ⟨u31, hu31, h⟩ := ob_some h
      refine x_callV (As := [.int _]) (n := 1) C (kX6_told l D cI cS aM _ _ hu31) (fun hh => nomatch hh) wm_X6_193 wi_X6_told we_X6_told wz_X6 wc_X6_told (by decide +kernel) rfl hP hD hS hA 0 3 rfl rfl rfl hl.1 dX6_digest_19 rfl (Nat.le_of_ble_eq_true rfl) ⟨Nat.le_of_ble_eq_true rfl, Nat.le_of_ble_eq_true rfl⟩ ⟨Nat.zero_le _, Nat.zero_le _⟩ (fun H locs hP hD hS => ?_)
      refine x_i2l C dX6_digest_22 ?_
      refine x_ladd C dX6_digest_23 ?_
      refine x_nml h (fun v32 h => ?_)
      refine x_lstore_n (lv' := [(1, .long v32), (0, .ref (aM 0)), (3, .int x3)]) C dX6_digest_24 rfl hl (by decide) rfl (fun ls hl => ?_)
      refine x_iinc (v := (x3 + (1 : Int32))) (lv' := [(3, .int (x3 + (1 : Int32))), (1, .long v32), (0, .ref (aM 0))]) C dX6_digest_25 hl (k := 2) rfl rfl (by decide) rfl (fun ls hl => ?_)
      refine x_goto (tgt := 6) C dX6_digest_28 (by decide) ?_
      exact ih6 _ h _ _ _ hP hD hS (lv_sub hl [2, 1, 0] rfl)
  refine x_ldc2 C wq_X6_191 dX6_digest_0 ?_
  refine x_lstore_n (lv' := [(1, .long (18520 : Int64)), (0, .ref (aM 0))]) C dX6_digest_3 rfl hl (by decide) rfl (fun ls hl => ?_)
  refine x_iconst (v := (0 : Int32)) C dX6_digest_4 (by decide) ?_
  refine x_istore_n (lv' := [(3, .int (0 : Int32)), (1, .long (18520 : Int64)), (0, .ref (aM 0))]) C dX6_digest_5 rfl hl (by decide) rfl (fun ls hl => ?_)
  exact B6 FU _ h _ _ _ hP hD hS (lv_sub hl [2, 1, 0] rfl)
theorem dX6_ifRun_0 : decode cX6_ifRun 0 = .ok (.iload_n 1, 1) := by decide +kernel
theorem dX6_ifRun_1 : decode cX6_ifRun 1 = .ok (.iconst 1, 1) := by decide +kernel
theorem dX6_ifRun_2 : decode cX6_ifRun 2 = .ok (.bipush 60, 2) := by decide +kernel
theorem dX6_ifRun_4 : decode cX6_ifRun 4 = .ok (.invokestatic 33, 3) := by decide +kernel
theorem dX6_ifRun_7 : decode cX6_ifRun 7 = .ok (.ifCond .eq 21, 3) := by decide +kernel
theorem dX6_ifRun_10 : decode cX6_ifRun 10 = .ok (.iload_n 2, 1) := by decide +kernel
theorem dX6_ifRun_11 : decode cX6_ifRun 11 = .ok (.iconst 0, 1) := by decide +kernel
theorem dX6_ifRun_12 : decode cX6_ifRun 12 = .ok (.iconst 3, 1) := by decide +kernel
theorem dX6_ifRun_13 : decode cX6_ifRun 13 = .ok (.invokestatic 33, 3) := by decide +kernel
theorem dX6_ifRun_16 : decode cX6_ifRun 16 = .ok (.ifCond .eq 12, 3) := by decide +kernel
theorem dX6_ifRun_19 : decode cX6_ifRun 19 = .ok (.aload_n 0, 1) := by decide +kernel
theorem dX6_ifRun_20 : decode cX6_ifRun 20 = .ok (.iload_n 1, 1) := by decide +kernel
theorem dX6_ifRun_21 : decode cX6_ifRun 21 = .ok (.iload_n 2, 1) := by decide +kernel
theorem dX6_ifRun_22 : decode cX6_ifRun 22 = .ok (.invokevirtual 163, 3) := by decide +kernel
theorem dX6_ifRun_25 : decode cX6_ifRun 25 = .ok (.goto 4, 3) := by decide +kernel
theorem dX6_ifRun_28 : decode cX6_ifRun 28 = .ok (.iconst (-1), 1) := by decide +kernel
theorem dX6_ifRun_29 : decode cX6_ifRun 29 = .ok (.ireturn, 1) := by decide +kernel
def bfX6_ifRun_29 (p1 : Int32) (p2 : Int32) (s0 : Int32) (S : MS) : Option (Int32 × (MS)) :=
  some (s0, S)
def bfX6_ifRun_28 (p1 : Int32) (p2 : Int32) (S : MS) : Option (Int32 × (MS)) :=
  bfX6_ifRun_29 p1 p2  ((-1 : Int32)) S
def fX6_ifRun (p1 : Int32) (p2 : Int32) (S : MS) : Option (Int32 × (MS)) :=
  ob (fX6_in p1 (1 : Int32) (60 : Int32)) fun u4 => (if u4 = 0 then bfX6_ifRun_28 p1 p2  S else ob (fX6_in p2 (0 : Int32) (3 : Int32)) fun u5 => (if u5 = 0 then bfX6_ifRun_28 p1 p2  S else ob (fX6_tries p1 p2 S) fun u6 => bfX6_ifRun_29 p1 p2  u6.1 u6.2))
set_option maxHeartbeats 4000000 in
set_option maxRecDepth 100000 in
theorem kX6_ifRun (l : Launch) (D : va_G) (cI cS : ClassId) (aM : Nat → Nat) (p1 : Int32) (p2 : Int32) (S : MS) {q : Int32 × (MS)} (h : fX6_ifRun p1 p2 S = some q) : Mc l D (tyL cI cS) false yX6_ifRun cX6_ifRun 3 (some .int) 10 [.ref (aM 0), .int p1, .int p2] (wM cI aM S) (some (.int q.1)) (wM cI aM q.2) := by
  refine Mc_of RX6 (by decide +kernel) rfl wc_X6_ifRun (Nat.le_of_ble_eq_true rfl) ?_
  intro p e s m args below meth c A Q ls C hA hz hP hD hS hl RET
  have RETh : ∀ {pc : Nat} {ls : Array Slot} {H : Heap} {locs : List Loc} {x : Int32} {S1 : MS}, decode cX6_ifRun pc = .ok (.ireturn, 1) → some (x, S1) = some q → va_P D vwCl (wM cI aM S1) H → va_D A (wM cI aM S1) → va_S A s.heap H locs → W p l e (rmL 10) s m args below meth c H locs 0 0 Q (F0 m pc ls [.int x]) := by
    intro pc ls H locs x S1 hd h hP hD hS; cases h; exact RET (x_iret C hd) hP hD hS
  have B29 : ∀ (s0 : Int32) (S : MS), bfX6_ifRun_29 p1 p2 s0 S = some q → ∀ (H : Heap) (locs : List Loc) (ls : Array Slot), va_P D vwCl (wM cI aM S) H → va_D A (wM cI aM S) → va_S A s.heap H locs → lv_has ls 3 [] → W p l e (rmL 10) s m args below meth c H locs 0 0 Q (F0 m 29 ls [.int s0]) := by
    intro s0 S h H locs ls hP hD hS hl
    exact RETh dX6_ifRun_29 h hP hD hS
  have B28 : ∀ (S : MS), bfX6_ifRun_28 p1 p2 S = some q → ∀ (H : Heap) (locs : List Loc) (ls : Array Slot), va_P D vwCl (wM cI aM S) H → va_D A (wM cI aM S) → va_S A s.heap H locs → lv_has ls 3 [] → W p l e (rmL 10) s m args below meth c H locs 0 0 Q (F0 m 28 ls []) := by
    intro S h H locs ls hP hD hS hl
    refine x_iconst (v := (-1 : Int32)) C dX6_ifRun_28 (by decide) ?_
    exact B29 _ _ h _ _ _ hP hD hS hl
  refine x_iload_n C dX6_ifRun_0 rfl hl 1 rfl ?_
  refine x_iconst (v := (1 : Int32)) C dX6_ifRun_1 (by decide) ?_
  refine x_bipush (v := (60 : Int32)) C dX6_ifRun_2 (by decide) ?_
  obtain ⟨u4, hu4, h⟩ := ob_some h
  refine x_callS (As := [.int _, .int _, .int _]) (n := 3) C (kX6_in l D cI cS _ _ _ _ hu4) (fun hh => nomatch hh) wm_X6_33 wt_X6_in wz_X6 wc_X6_in (by decide +kernel) rfl hP hD hS hA hl.1 dX6_ifRun_4 rfl (Nat.le_of_ble_eq_true rfl) ⟨Nat.le_of_ble_eq_true rfl, Nat.le_of_ble_eq_true rfl⟩ ⟨Nat.zero_le _, Nat.zero_le _⟩ (fun H locs hP hD hS => ?_)
  refine x_if_eq (tgt := 28) C h dX6_ifRun_7 (by decide) (fun h => ?_) (fun h => ?_)
  · exact B28 _ h _ _ _ hP hD hS (lv_sub hl [] rfl)
  · refine x_iload_n C dX6_ifRun_10 rfl hl 2 rfl ?_
    refine x_iconst (v := (0 : Int32)) C dX6_ifRun_11 (by decide) ?_
    refine x_iconst (v := (3 : Int32)) C dX6_ifRun_12 (by decide) ?_
    obtain ⟨u5, hu5, h⟩ := ob_some h
    refine x_callS (As := [.int _, .int _, .int _]) (n := 3) C (kX6_in l D cI cS _ _ _ _ hu5) (fun hh => nomatch hh) wm_X6_33 wt_X6_in wz_X6 wc_X6_in (by decide +kernel) rfl hP hD hS hA hl.1 dX6_ifRun_13 rfl (Nat.le_of_ble_eq_true rfl) ⟨Nat.le_of_ble_eq_true rfl, Nat.le_of_ble_eq_true rfl⟩ ⟨Nat.zero_le _, Nat.zero_le _⟩ (fun H locs hP hD hS => ?_)
    refine x_if_eq (tgt := 28) C h dX6_ifRun_16 (by decide) (fun h => ?_) (fun h => ?_)
    · exact B28 _ h _ _ _ hP hD hS (lv_sub hl [] rfl)
    · refine x_aload_n C dX6_ifRun_19 rfl hl 0 rfl ?_
      refine x_iload_n C dX6_ifRun_20 rfl hl 1 rfl ?_
      refine x_iload_n C dX6_ifRun_21 rfl hl 2 rfl ?_
      obtain ⟨u6, hu6, h⟩ := ob_some h
      refine x_callV (As := [.int _, .int _]) (n := 2) C (kX6_tries l D cI cS aM _ _ _ hu6) (fun hh => nomatch hh) wm_X6_163 wi_X6_tries we_X6_tries wz_X6 wc_X6_tries (by decide +kernel) rfl hP hD hS hA 0 3 rfl rfl rfl hl.1 dX6_ifRun_22 rfl (Nat.le_of_ble_eq_true rfl) ⟨Nat.le_of_ble_eq_true rfl, Nat.le_of_ble_eq_true rfl⟩ ⟨Nat.zero_le _, Nat.zero_le _⟩ (fun H locs hP hD hS => ?_)
      refine x_goto (tgt := 29) C dX6_ifRun_25 (by decide) ?_
      exact B29 _ _ h _ _ _ hP hD hS (lv_sub hl [] rfl)
theorem dX6_known_0 : decode cX6_known 0 = .ok (.aload_n 0, 1) := by decide +kernel
theorem dX6_known_1 : decode cX6_known 1 = .ok (.getfield 7, 3) := by decide +kernel
theorem dX6_known_4 : decode cX6_known 4 = .ok (.sipush 182, 3) := by decide +kernel
theorem dX6_known_7 : decode cX6_known 7 = .ok (.iaload, 1) := by decide +kernel
theorem dX6_known_8 : decode cX6_known 8 = .ok (.bipush 64, 2) := by decide +kernel
theorem dX6_known_10 : decode cX6_known 10 = .ok (.invokestatic 53, 3) := by decide +kernel
theorem dX6_known_13 : decode cX6_known 13 = .ok (.ireturn, 1) := by decide +kernel
def fX6_known (S : MS) : Option (Int32) :=
  ob (fX6_least ((S.1 ((182 : Int32)).toNatClampNeg)) (64 : Int32)) fun u2 => some u2
set_option maxHeartbeats 4000000 in
set_option maxRecDepth 100000 in
theorem kX6_known (l : Launch) (D : va_G) (cI cS : ClassId) (aM : Nat → Nat) (S : MS) {q : Int32} (h : fX6_known S = some q) : Mc l D (tyL cI cS) false yX6_known cX6_known 1 (some .int) 2 [.ref (aM 0)] (wM cI aM S) (some (.int q)) (wM cI aM S) := by
  refine Mc_of RX6 (by decide +kernel) rfl wc_X6_known (Nat.le_of_ble_eq_true rfl) ?_
  intro p e s m args below meth c A Q ls C hA hz hP hD hS hl RET
  have RETh : ∀ {pc : Nat} {ls : Array Slot} {H : Heap} {locs : List Loc} {x : Int32} , decode cX6_known pc = .ok (.ireturn, 1) → some x = some q → va_P D vwCl (wM cI aM S) H → va_D A (wM cI aM S) → va_S A s.heap H locs → W p l e (rmL 2) s m args below meth c H locs 0 0 Q (F0 m pc ls [.int x]) := by
    intro pc ls H locs x hd h hP hD hS; cases h; exact RET (x_iret C hd) hP hD hS
  refine x_aload_n C dX6_known_0 rfl hl 0 rfl ?_
  refine x_get C inX6 hP 0 rfl rfl 0 (by decide) wf_X6_7 rfl dX6_known_1 ?_
  refine x_sipush (v := (182 : Int32)) C dX6_known_4 (by decide) ?_
  refine x_ialdK C (by decide) hP 1 rfl (t0 := 0) rfl dX6_known_7 ?_
  refine x_bipush (v := (64 : Int32)) C dX6_known_8 (by decide) ?_
  obtain ⟨u2, hu2, h⟩ := ob_some h
  refine x_callS (As := [.int _, .int _]) (n := 2) C (kX6_least l D cI cS _ _ _ hu2) (fun hh => nomatch hh) wm_X6_53 wt_X6_least wz_X6 wc_X6_least (by decide +kernel) rfl hP hD hS hA hl.1 dX6_known_10 rfl (Nat.le_of_ble_eq_true rfl) ⟨Nat.le_of_ble_eq_true rfl, Nat.le_of_ble_eq_true rfl⟩ ⟨Nat.zero_le _, Nat.zero_le _⟩ (fun H locs hP hD hS => ?_)
  exact RETh dX6_known_13 h hP hD hS
theorem dX6_live_0 : decode cX6_live 0 = .ok (.iload_n 1, 1) := by decide +kernel
theorem dX6_live_1 : decode cX6_live 1 = .ok (.ifCond .ge 7, 3) := by decide +kernel
theorem dX6_live_4 : decode cX6_live 4 = .ok (.iconst (-1), 1) := by decide +kernel
theorem dX6_live_5 : decode cX6_live 5 = .ok (.goto 32, 3) := by decide +kernel
theorem dX6_live_8 : decode cX6_live 8 = .ok (.iload_n 1, 1) := by decide +kernel
theorem dX6_live_9 : decode cX6_live 9 = .ok (.aload_n 0, 1) := by decide +kernel
theorem dX6_live_10 : decode cX6_live 10 = .ok (.getfield 7, 3) := by decide +kernel
theorem dX6_live_13 : decode cX6_live 13 = .ok (.sipush 188, 3) := by decide +kernel
theorem dX6_live_16 : decode cX6_live 16 = .ok (.iaload, 1) := by decide +kernel
theorem dX6_live_17 : decode cX6_live 17 = .ok (.if_icmp .ge 18, 3) := by decide +kernel
theorem dX6_live_20 : decode cX6_live 20 = .ok (.aload_n 0, 1) := by decide +kernel
theorem dX6_live_21 : decode cX6_live 21 = .ok (.getfield 7, 3) := by decide +kernel
theorem dX6_live_24 : decode cX6_live 24 = .ok (.aload_n 0, 1) := by decide +kernel
theorem dX6_live_25 : decode cX6_live 25 = .ok (.iload_n 1, 1) := by decide +kernel
theorem dX6_live_26 : decode cX6_live 26 = .ok (.invokevirtual 48, 3) := by decide +kernel
theorem dX6_live_29 : decode cX6_live 29 = .ok (.iconst 0, 1) := by decide +kernel
theorem dX6_live_30 : decode cX6_live 30 = .ok (.iadd, 1) := by decide +kernel
theorem dX6_live_31 : decode cX6_live 31 = .ok (.iaload, 1) := by decide +kernel
theorem dX6_live_32 : decode cX6_live 32 = .ok (.goto 5, 3) := by decide +kernel
theorem dX6_live_35 : decode cX6_live 35 = .ok (.bipush (-9), 2) := by decide +kernel
theorem dX6_live_37 : decode cX6_live 37 = .ok (.ireturn, 1) := by decide +kernel
def bfX6_live_37 (p1 : Int32) (S : MS) (s0 : Int32) : Option (Int32) :=
  some s0
def fX6_live (p1 : Int32) (S : MS) : Option (Int32) :=
  (if 0 ≤ p1 then (if (S.1 ((188 : Int32)).toNatClampNeg) ≤ p1 then bfX6_live_37 p1 S  ((-9 : Int32)) else ob (fX6_row p1 S) fun u2 => (if okI (u2 + (0 : Int32)) 5130 then bfX6_live_37 p1 S  ((S.1 ((u2 + (0 : Int32))).toNatClampNeg)) else none)) else bfX6_live_37 p1 S  ((-1 : Int32)))
set_option maxHeartbeats 4000000 in
set_option maxRecDepth 100000 in
theorem kX6_live (l : Launch) (D : va_G) (cI cS : ClassId) (aM : Nat → Nat) (p1 : Int32) (S : MS) {q : Int32} (h : fX6_live p1 S = some q) : Mc l D (tyL cI cS) false yX6_live cX6_live 2 (some .int) 2 [.ref (aM 0), .int p1] (wM cI aM S) (some (.int q)) (wM cI aM S) := by
  refine Mc_of RX6 (by decide +kernel) rfl wc_X6_live (Nat.le_of_ble_eq_true rfl) ?_
  intro p e s m args below meth c A Q ls C hA hz hP hD hS hl RET
  have RETh : ∀ {pc : Nat} {ls : Array Slot} {H : Heap} {locs : List Loc} {x : Int32} , decode cX6_live pc = .ok (.ireturn, 1) → some x = some q → va_P D vwCl (wM cI aM S) H → va_D A (wM cI aM S) → va_S A s.heap H locs → W p l e (rmL 2) s m args below meth c H locs 0 0 Q (F0 m pc ls [.int x]) := by
    intro pc ls H locs x hd h hP hD hS; cases h; exact RET (x_iret C hd) hP hD hS
  have B37 : ∀ (s0 : Int32), bfX6_live_37 p1 S s0 = some q → ∀ (H : Heap) (locs : List Loc) (ls : Array Slot), va_P D vwCl (wM cI aM S) H → va_D A (wM cI aM S) → va_S A s.heap H locs → lv_has ls 2 [] → W p l e (rmL 2) s m args below meth c H locs 0 0 Q (F0 m 37 ls [.int s0]) := by
    intro s0 h H locs ls hP hD hS hl
    exact RETh dX6_live_37 h hP hD hS
  refine x_iload_n C dX6_live_0 rfl hl 1 rfl ?_
  refine x_if_ge (tgt := 8) C h dX6_live_1 (by decide) (fun h => ?_) (fun h => ?_)
  · refine x_iload_n C dX6_live_8 rfl hl 1 rfl ?_
    refine x_aload_n C dX6_live_9 rfl hl 0 rfl ?_
    refine x_get C inX6 hP 0 rfl rfl 0 (by decide) wf_X6_7 rfl dX6_live_10 ?_
    refine x_sipush (v := (188 : Int32)) C dX6_live_13 (by decide) ?_
    refine x_ialdK C (by decide) hP 1 rfl (t0 := 0) rfl dX6_live_16 ?_
    refine x_icmp_ge (tgt := 35) C h dX6_live_17 (by decide) (fun h => ?_) (fun h => ?_)
    · refine x_bipush (v := (-9 : Int32)) C dX6_live_35 (by decide) ?_
      exact B37 _ h _ _ _ hP hD hS (lv_sub hl [] rfl)
    · refine x_aload_n C dX6_live_20 rfl hl 0 rfl ?_
      refine x_get C inX6 hP 0 rfl rfl 0 (by decide) wf_X6_7 rfl dX6_live_21 ?_
      refine x_aload_n C dX6_live_24 rfl hl 0 rfl ?_
      refine x_iload_n C dX6_live_25 rfl hl 1 rfl ?_
      obtain ⟨u2, hu2, h⟩ := ob_some h
      refine x_callV (As := [.int _]) (n := 1) C (kX6_row l D cI cS aM _ _ hu2) (fun hh => nomatch hh) wm_X6_48 wi_X6_row we_X6_row wz_X6 wc_X6_row (by decide +kernel) rfl hP hD hS hA 0 3 rfl rfl rfl hl.1 dX6_live_26 rfl (Nat.le_of_ble_eq_true rfl) ⟨Nat.le_of_ble_eq_true rfl, Nat.le_of_ble_eq_true rfl⟩ ⟨Nat.zero_le _, Nat.zero_le _⟩ (fun H locs hP hD hS => ?_)
      refine x_iconst (v := (0 : Int32)) C dX6_live_29 (by decide) ?_
      refine x_iadd C dX6_live_30 ?_
      refine x_iald C h hP 1 rfl (t0 := 0) rfl dX6_live_31 (fun h => ?_)
      refine x_goto (tgt := 37) C dX6_live_32 (by decide) ?_
      exact B37 _ h _ _ _ hP hD hS (lv_sub hl [] rfl)
  · refine x_iconst (v := (-1 : Int32)) C dX6_live_4 (by decide) ?_
    refine x_goto (tgt := 37) C dX6_live_5 (by decide) ?_
    exact B37 _ h _ _ _ hP hD hS (lv_sub hl [] rfl)
theorem dX6_past_0 : decode cX6_past 0 = .ok (.aload_n 0, 1) := by decide +kernel
theorem dX6_past_1 : decode cX6_past 1 = .ok (.getfield 7, 3) := by decide +kernel
theorem dX6_past_4 : decode cX6_past 4 = .ok (.sipush 599, 3) := by decide +kernel
theorem dX6_past_7 : decode cX6_past 7 = .ok (.iconst 4, 1) := by decide +kernel
theorem dX6_past_8 : decode cX6_past 8 = .ok (.iload_n 1, 1) := by decide +kernel
theorem dX6_past_9 : decode cX6_past 9 = .ok (.bipush 64, 2) := by decide +kernel
theorem dX6_past_11 : decode cX6_past 11 = .ok (.irem, 1) := by decide +kernel
theorem dX6_past_12 : decode cX6_past 12 = .ok (.imul, 1) := by decide +kernel
theorem dX6_past_13 : decode cX6_past 13 = .ok (.iadd, 1) := by decide +kernel
theorem dX6_past_14 : decode cX6_past 14 = .ok (.iload_n 2, 1) := by decide +kernel
theorem dX6_past_15 : decode cX6_past 15 = .ok (.iadd, 1) := by decide +kernel
theorem dX6_past_16 : decode cX6_past 16 = .ok (.iaload, 1) := by decide +kernel
theorem dX6_past_17 : decode cX6_past 17 = .ok (.ireturn, 1) := by decide +kernel
def fX6_past (p1 : Int32) (p2 : Int32) (S : MS) : Option (Int32) :=
  (if okI (((599 : Int32) + ((4 : Int32) * (p1 - p1 / (64 : Int32) * (64 : Int32)))) + p2) 5130 then some (S.1 ((((599 : Int32) + ((4 : Int32) * (p1 - p1 / (64 : Int32) * (64 : Int32)))) + p2)).toNatClampNeg) else none)
set_option maxHeartbeats 4000000 in
set_option maxRecDepth 100000 in
theorem kX6_past (l : Launch) (D : va_G) (cI cS : ClassId) (aM : Nat → Nat) (p1 : Int32) (p2 : Int32) (S : MS) {q : Int32} (h : fX6_past p1 p2 S = some q) : Mc l D (tyL cI cS) false yX6_past cX6_past 3 (some .int) 1 [.ref (aM 0), .int p1, .int p2] (wM cI aM S) (some (.int q)) (wM cI aM S) := by
  refine Mc_of RX6 (by decide +kernel) rfl wc_X6_past (Nat.le_of_ble_eq_true rfl) ?_
  intro p e s m args below meth c A Q ls C hA hz hP hD hS hl RET
  have RETh : ∀ {pc : Nat} {ls : Array Slot} {H : Heap} {locs : List Loc} {x : Int32} , decode cX6_past pc = .ok (.ireturn, 1) → some x = some q → va_P D vwCl (wM cI aM S) H → va_D A (wM cI aM S) → va_S A s.heap H locs → W p l e (rmL 1) s m args below meth c H locs 0 0 Q (F0 m pc ls [.int x]) := by
    intro pc ls H locs x hd h hP hD hS; cases h; exact RET (x_iret C hd) hP hD hS
  refine x_aload_n C dX6_past_0 rfl hl 0 rfl ?_
  refine x_get C inX6 hP 0 rfl rfl 0 (by decide) wf_X6_7 rfl dX6_past_1 ?_
  refine x_sipush (v := (599 : Int32)) C dX6_past_4 (by decide) ?_
  refine x_iconst (v := (4 : Int32)) C dX6_past_7 (by decide) ?_
  refine x_iload_n C dX6_past_8 rfl hl 1 rfl ?_
  refine x_bipush (v := (64 : Int32)) C dX6_past_9 (by decide) ?_
  refine x_iremK C (by decide) dX6_past_11 ?_
  refine x_imul C dX6_past_12 ?_
  refine x_iadd C dX6_past_13 ?_
  refine x_iload_n C dX6_past_14 rfl hl 2 rfl ?_
  refine x_iadd C dX6_past_15 ?_
  refine x_iald C h hP 1 rfl (t0 := 0) rfl dX6_past_16 (fun h => ?_)
  exact RETh dX6_past_17 h hP hD hS
theorem dX6_property_0 : decode cX6_property 0 = .ok (.iload_n 1, 1) := by decide +kernel
theorem dX6_property_1 : decode cX6_property 1 = .ok (.invokestatic 37, 3) := by decide +kernel
theorem dX6_property_4 : decode cX6_property 4 = .ok (.ifCond .eq 22, 3) := by decide +kernel
theorem dX6_property_7 : decode cX6_property 7 = .ok (.iload_n 2, 1) := by decide +kernel
theorem dX6_property_8 : decode cX6_property 8 = .ok (.iconst 0, 1) := by decide +kernel
theorem dX6_property_9 : decode cX6_property 9 = .ok (.bipush 11, 2) := by decide +kernel
theorem dX6_property_11 : decode cX6_property 11 = .ok (.invokestatic 33, 3) := by decide +kernel
theorem dX6_property_14 : decode cX6_property 14 = .ok (.ifCond .eq 12, 3) := by decide +kernel
theorem dX6_property_17 : decode cX6_property 17 = .ok (.aload_n 0, 1) := by decide +kernel
theorem dX6_property_18 : decode cX6_property 18 = .ok (.iload_n 1, 1) := by decide +kernel
theorem dX6_property_19 : decode cX6_property 19 = .ok (.iload_n 2, 1) := by decide +kernel
theorem dX6_property_20 : decode cX6_property 20 = .ok (.invokevirtual 44, 3) := by decide +kernel
theorem dX6_property_23 : decode cX6_property 23 = .ok (.goto 4, 3) := by decide +kernel
theorem dX6_property_26 : decode cX6_property 26 = .ok (.iconst (-1), 1) := by decide +kernel
theorem dX6_property_27 : decode cX6_property 27 = .ok (.ireturn, 1) := by decide +kernel
def bfX6_property_27 (p1 : Int32) (p2 : Int32) (S : MS) (s0 : Int32) : Option (Int32) :=
  some s0
def bfX6_property_26 (p1 : Int32) (p2 : Int32) (S : MS) : Option (Int32) :=
  bfX6_property_27 p1 p2 S  ((-1 : Int32))
def fX6_property (p1 : Int32) (p2 : Int32) (S : MS) : Option (Int32) :=
  ob (fX6_isClient p1) fun u4 => (if u4 = 0 then bfX6_property_26 p1 p2 S else ob (fX6_in p2 (0 : Int32) (11 : Int32)) fun u5 => (if u5 = 0 then bfX6_property_26 p1 p2 S else ob (fX6_of p1 p2 S) fun u6 => bfX6_property_27 p1 p2 S  u6))
set_option maxHeartbeats 4000000 in
set_option maxRecDepth 100000 in
theorem kX6_property (l : Launch) (D : va_G) (cI cS : ClassId) (aM : Nat → Nat) (p1 : Int32) (p2 : Int32) (S : MS) {q : Int32} (h : fX6_property p1 p2 S = some q) : Mc l D (tyL cI cS) false yX6_property cX6_property 3 (some .int) 3 [.ref (aM 0), .int p1, .int p2] (wM cI aM S) (some (.int q)) (wM cI aM S) := by
  refine Mc_of RX6 (by decide +kernel) rfl wc_X6_property (Nat.le_of_ble_eq_true rfl) ?_
  intro p e s m args below meth c A Q ls C hA hz hP hD hS hl RET
  have RETh : ∀ {pc : Nat} {ls : Array Slot} {H : Heap} {locs : List Loc} {x : Int32} , decode cX6_property pc = .ok (.ireturn, 1) → some x = some q → va_P D vwCl (wM cI aM S) H → va_D A (wM cI aM S) → va_S A s.heap H locs → W p l e (rmL 3) s m args below meth c H locs 0 0 Q (F0 m pc ls [.int x]) := by
    intro pc ls H locs x hd h hP hD hS; cases h; exact RET (x_iret C hd) hP hD hS
  have B27 : ∀ (s0 : Int32), bfX6_property_27 p1 p2 S s0 = some q → ∀ (H : Heap) (locs : List Loc) (ls : Array Slot), va_P D vwCl (wM cI aM S) H → va_D A (wM cI aM S) → va_S A s.heap H locs → lv_has ls 3 [] → W p l e (rmL 3) s m args below meth c H locs 0 0 Q (F0 m 27 ls [.int s0]) := by
    intro s0 h H locs ls hP hD hS hl
    exact RETh dX6_property_27 h hP hD hS
  have B26 : bfX6_property_26 p1 p2 S = some q → ∀ (H : Heap) (locs : List Loc) (ls : Array Slot), va_P D vwCl (wM cI aM S) H → va_D A (wM cI aM S) → va_S A s.heap H locs → lv_has ls 3 [] → W p l e (rmL 3) s m args below meth c H locs 0 0 Q (F0 m 26 ls []) := by
    intro  h H locs ls hP hD hS hl
    refine x_iconst (v := (-1 : Int32)) C dX6_property_26 (by decide) ?_
    exact B27 _ h _ _ _ hP hD hS hl
  refine x_iload_n C dX6_property_0 rfl hl 1 rfl ?_
  obtain ⟨u4, hu4, h⟩ := ob_some h
  refine x_callS (As := [.int _]) (n := 1) C (kX6_isClient l D cI cS _ _ hu4) (fun hh => nomatch hh) wm_X6_37 wt_X6_isClient wz_X6 wc_X6_isClient (by decide +kernel) rfl hP hD hS hA hl.1 dX6_property_1 rfl (Nat.le_of_ble_eq_true rfl) ⟨Nat.le_of_ble_eq_true rfl, Nat.le_of_ble_eq_true rfl⟩ ⟨Nat.zero_le _, Nat.zero_le _⟩ (fun H locs hP hD hS => ?_)
  refine x_if_eq (tgt := 26) C h dX6_property_4 (by decide) (fun h => ?_) (fun h => ?_)
  · exact B26  h _ _ _ hP hD hS (lv_sub hl [] rfl)
  · refine x_iload_n C dX6_property_7 rfl hl 2 rfl ?_
    refine x_iconst (v := (0 : Int32)) C dX6_property_8 (by decide) ?_
    refine x_bipush (v := (11 : Int32)) C dX6_property_9 (by decide) ?_
    obtain ⟨u5, hu5, h⟩ := ob_some h
    refine x_callS (As := [.int _, .int _, .int _]) (n := 3) C (kX6_in l D cI cS _ _ _ _ hu5) (fun hh => nomatch hh) wm_X6_33 wt_X6_in wz_X6 wc_X6_in (by decide +kernel) rfl hP hD hS hA hl.1 dX6_property_11 rfl (Nat.le_of_ble_eq_true rfl) ⟨Nat.le_of_ble_eq_true rfl, Nat.le_of_ble_eq_true rfl⟩ ⟨Nat.zero_le _, Nat.zero_le _⟩ (fun H locs hP hD hS => ?_)
    refine x_if_eq (tgt := 26) C h dX6_property_14 (by decide) (fun h => ?_) (fun h => ?_)
    · exact B26  h _ _ _ hP hD hS (lv_sub hl [] rfl)
    · refine x_aload_n C dX6_property_17 rfl hl 0 rfl ?_
      refine x_iload_n C dX6_property_18 rfl hl 1 rfl ?_
      refine x_iload_n C dX6_property_19 rfl hl 2 rfl ?_
      obtain ⟨u6, hu6, h⟩ := ob_some h
      refine x_callV (As := [.int _, .int _]) (n := 2) C (kX6_of l D cI cS aM _ _ _ hu6) (fun hh => nomatch hh) wm_X6_44 wi_X6_of we_X6_of wz_X6 wc_X6_of (by decide +kernel) rfl hP hD hS hA 0 3 rfl rfl rfl hl.1 dX6_property_20 rfl (Nat.le_of_ble_eq_true rfl) ⟨Nat.le_of_ble_eq_true rfl, Nat.le_of_ble_eq_true rfl⟩ ⟨Nat.zero_le _, Nat.zero_le _⟩ (fun H locs hP hD hS => ?_)
      refine x_goto (tgt := 27) C dX6_property_23 (by decide) ?_
      exact B27 _ h _ _ _ hP hD hS (lv_sub hl [] rfl)
theorem dX6_queued_0 : decode cX6_queued 0 = .ok (.iload_n 2, 1) := by decide +kernel
theorem dX6_queued_1 : decode cX6_queued 1 = .ok (.ifCond .ge 5, 3) := by decide +kernel
theorem dX6_queued_4 : decode cX6_queued 4 = .ok (.iconst (-1), 1) := by decide +kernel
theorem dX6_queued_5 : decode cX6_queued 5 = .ok (.ireturn, 1) := by decide +kernel
theorem dX6_queued_6 : decode cX6_queued 6 = .ok (.iload_n 2, 1) := by decide +kernel
theorem dX6_queued_7 : decode cX6_queued 7 = .ok (.aload_n 0, 1) := by decide +kernel
theorem dX6_queued_8 : decode cX6_queued 8 = .ok (.getfield 7, 3) := by decide +kernel
theorem dX6_queued_11 : decode cX6_queued 11 = .ok (.iload_n 1, 1) := by decide +kernel
theorem dX6_queued_12 : decode cX6_queued 12 = .ok (.ifCond .eq 9, 3) := by decide +kernel
theorem dX6_queued_15 : decode cX6_queued 15 = .ok (.sipush 574, 3) := by decide +kernel
theorem dX6_queued_18 : decode cX6_queued 18 = .ok (.goto 6, 3) := by decide +kernel
theorem dX6_queued_21 : decode cX6_queued 21 = .ok (.sipush 557, 3) := by decide +kernel
theorem dX6_queued_24 : decode cX6_queued 24 = .ok (.iaload, 1) := by decide +kernel
theorem dX6_queued_25 : decode cX6_queued 25 = .ok (.if_icmp .lt 6, 3) := by decide +kernel
theorem dX6_queued_28 : decode cX6_queued 28 = .ok (.bipush (-9), 2) := by decide +kernel
theorem dX6_queued_30 : decode cX6_queued 30 = .ok (.ireturn, 1) := by decide +kernel
theorem dX6_queued_31 : decode cX6_queued 31 = .ok (.aload_n 0, 1) := by decide +kernel
theorem dX6_queued_32 : decode cX6_queued 32 = .ok (.aload_n 0, 1) := by decide +kernel
theorem dX6_queued_33 : decode cX6_queued 33 = .ok (.getfield 7, 3) := by decide +kernel
theorem dX6_queued_36 : decode cX6_queued 36 = .ok (.iload_n 1, 1) := by decide +kernel
theorem dX6_queued_37 : decode cX6_queued 37 = .ok (.ifCond .eq 9, 3) := by decide +kernel
theorem dX6_queued_40 : decode cX6_queued 40 = .ok (.sipush 575, 3) := by decide +kernel
theorem dX6_queued_43 : decode cX6_queued 43 = .ok (.goto 6, 3) := by decide +kernel
theorem dX6_queued_46 : decode cX6_queued 46 = .ok (.sipush 558, 3) := by decide +kernel
theorem dX6_queued_49 : decode cX6_queued 49 = .ok (.iload_n 2, 1) := by decide +kernel
theorem dX6_queued_50 : decode cX6_queued 50 = .ok (.iadd, 1) := by decide +kernel
theorem dX6_queued_51 : decode cX6_queued 51 = .ok (.iaload, 1) := by decide +kernel
theorem dX6_queued_52 : decode cX6_queued 52 = .ok (.invokevirtual 178, 3) := by decide +kernel
theorem dX6_queued_55 : decode cX6_queued 55 = .ok (.ireturn, 1) := by decide +kernel
def bfX6_queued_49 (p1 : Int32) (p2 : Int32) (S : MS) (s2 : Int32) : Option (Int32) :=
  (if okI (s2 + p2) 5130 then ob (fX6_ownerOf ((S.1 ((s2 + p2)).toNatClampNeg)) S) fun u2 => some u2 else none)
def bfX6_queued_24 (p1 : Int32) (p2 : Int32) (S : MS) (s0 : Int32) (s2 : Int32) : Option (Int32) :=
  (if okI s2 5130 then (if s0 < (S.1 (s2).toNatClampNeg) then (if p1 = 0 then bfX6_queued_49 p1 p2 S  ((558 : Int32)) else bfX6_queued_49 p1 p2 S  ((575 : Int32))) else some (-9 : Int32)) else none)
def fX6_queued (p1 : Int32) (p2 : Int32) (S : MS) : Option (Int32) :=
  (if 0 ≤ p2 then (if p1 = 0 then bfX6_queued_24 p1 p2 S  p2 ((557 : Int32)) else bfX6_queued_24 p1 p2 S  p2 ((574 : Int32))) else some (-1 : Int32))
set_option maxHeartbeats 4000000 in
set_option maxRecDepth 100000 in
theorem kX6_queued (l : Launch) (D : va_G) (cI cS : ClassId) (aM : Nat → Nat) (p1 : Int32) (p2 : Int32) (S : MS) {q : Int32} (h : fX6_queued p1 p2 S = some q) : Mc l D (tyL cI cS) false yX6_queued cX6_queued 3 (some .int) 3 [.ref (aM 0), .int p1, .int p2] (wM cI aM S) (some (.int q)) (wM cI aM S) := by
  refine Mc_of RX6 (by decide +kernel) rfl wc_X6_queued (Nat.le_of_ble_eq_true rfl) ?_
  intro p e s m args below meth c A Q ls C hA hz hP hD hS hl RET
  have RETh : ∀ {pc : Nat} {ls : Array Slot} {H : Heap} {locs : List Loc} {x : Int32} , decode cX6_queued pc = .ok (.ireturn, 1) → some x = some q → va_P D vwCl (wM cI aM S) H → va_D A (wM cI aM S) → va_S A s.heap H locs → W p l e (rmL 3) s m args below meth c H locs 0 0 Q (F0 m pc ls [.int x]) := by
    intro pc ls H locs x hd h hP hD hS; cases h; exact RET (x_iret C hd) hP hD hS
  have B49 : ∀ (s2 : Int32), bfX6_queued_49 p1 p2 S s2 = some q → ∀ (H : Heap) (locs : List Loc) (ls : Array Slot), va_P D vwCl (wM cI aM S) H → va_D A (wM cI aM S) → va_S A s.heap H locs → lv_has ls 3 [(2, .int p2)] → W p l e (rmL 3) s m args below meth c H locs 0 0 Q (F0 m 49 ls [.int s2, .ref (aM 1), .ref (aM 0)]) := by
    intro s2 h H locs ls hP hD hS hl
    refine x_iload_n C dX6_queued_49 rfl hl 0 rfl ?_
    refine x_iadd C dX6_queued_50 ?_
    refine x_iald C h hP 1 rfl (t0 := 0) rfl dX6_queued_51 (fun h => ?_)
    obtain ⟨u2, hu2, h⟩ := ob_some h
    refine x_callV (As := [.int _]) (n := 1) C (kX6_ownerOf l D cI cS aM _ _ hu2) (fun hh => nomatch hh) wm_X6_178 wi_X6_ownerOf we_X6_ownerOf wz_X6 wc_X6_ownerOf (by decide +kernel) rfl hP hD hS hA 0 3 rfl rfl rfl hl.1 dX6_queued_52 rfl (Nat.le_of_ble_eq_true rfl) ⟨Nat.le_of_ble_eq_true rfl, Nat.le_of_ble_eq_true rfl⟩ ⟨Nat.zero_le _, Nat.zero_le _⟩ (fun H locs hP hD hS => ?_)
    exact RETh dX6_queued_55 h hP hD hS
  have B24 : ∀ (s0 : Int32) (s2 : Int32), bfX6_queued_24 p1 p2 S s0 s2 = some q → ∀ (H : Heap) (locs : List Loc) (ls : Array Slot), va_P D vwCl (wM cI aM S) H → va_D A (wM cI aM S) → va_S A s.heap H locs → lv_has ls 3 [(0, .ref (aM 0)), (1, .int p1), (2, .int p2)] → W p l e (rmL 3) s m args below meth c H locs 0 0 Q (F0 m 24 ls [.int s2, .ref (aM 1), .int s0]) := by
    intro s0 s2 h H locs ls hP hD hS hl
    refine x_iald C h hP 1 rfl (t0 := 0) rfl dX6_queued_24 (fun h => ?_)
    refine x_icmp_lt (tgt := 31) C h dX6_queued_25 (by decide) (fun h => ?_) (fun h => ?_)
    · refine x_aload_n C dX6_queued_31 rfl hl 0 rfl ?_
      refine x_aload_n C dX6_queued_32 rfl hl 0 rfl ?_
      refine x_get C inX6 hP 0 rfl rfl 0 (by decide) wf_X6_7 rfl dX6_queued_33 ?_
      refine x_iload_n C dX6_queued_36 rfl hl 1 rfl ?_
      refine x_if_eq (tgt := 46) C h dX6_queued_37 (by decide) (fun h => ?_) (fun h => ?_)
      · refine x_sipush (v := (558 : Int32)) C dX6_queued_46 (by decide) ?_
        exact B49 _ h _ _ _ hP hD hS (lv_sub hl [2] rfl)
      · refine x_sipush (v := (575 : Int32)) C dX6_queued_40 (by decide) ?_
        refine x_goto (tgt := 49) C dX6_queued_43 (by decide) ?_
        exact B49 _ h _ _ _ hP hD hS (lv_sub hl [2] rfl)
    · refine x_bipush (v := (-9 : Int32)) C dX6_queued_28 (by decide) ?_
      exact RETh dX6_queued_30 h hP hD hS
  refine x_iload_n C dX6_queued_0 rfl hl 2 rfl ?_
  refine x_if_ge (tgt := 6) C h dX6_queued_1 (by decide) (fun h => ?_) (fun h => ?_)
  · refine x_iload_n C dX6_queued_6 rfl hl 2 rfl ?_
    refine x_aload_n C dX6_queued_7 rfl hl 0 rfl ?_
    refine x_get C inX6 hP 0 rfl rfl 0 (by decide) wf_X6_7 rfl dX6_queued_8 ?_
    refine x_iload_n C dX6_queued_11 rfl hl 1 rfl ?_
    refine x_if_eq (tgt := 21) C h dX6_queued_12 (by decide) (fun h => ?_) (fun h => ?_)
    · refine x_sipush (v := (557 : Int32)) C dX6_queued_21 (by decide) ?_
      exact B24 _ _ h _ _ _ hP hD hS hl
    · refine x_sipush (v := (574 : Int32)) C dX6_queued_15 (by decide) ?_
      refine x_goto (tgt := 24) C dX6_queued_18 (by decide) ?_
      exact B24 _ _ h _ _ _ hP hD hS hl
  · refine x_iconst (v := (-1 : Int32)) C dX6_queued_4 (by decide) ?_
    exact RETh dX6_queued_5 h hP hD hS
theorem dX6_quiet_0 : decode cX6_quiet 0 = .ok (.iload_n 1, 1) := by decide +kernel
theorem dX6_quiet_1 : decode cX6_quiet 1 = .ok (.iconst 0, 1) := by decide +kernel
theorem dX6_quiet_2 : decode cX6_quiet 2 = .ok (.bipush 16, 2) := by decide +kernel
theorem dX6_quiet_4 : decode cX6_quiet 4 = .ok (.invokestatic 33, 3) := by decide +kernel
theorem dX6_quiet_7 : decode cX6_quiet 7 = .ok (.ifCond .ne 5, 3) := by decide +kernel
theorem dX6_quiet_10 : decode cX6_quiet 10 = .ok (.iconst (-1), 1) := by decide +kernel
theorem dX6_quiet_11 : decode cX6_quiet 11 = .ok (.ireturn, 1) := by decide +kernel
theorem dX6_quiet_12 : decode cX6_quiet 12 = .ok (.iconst 0, 1) := by decide +kernel
theorem dX6_quiet_13 : decode cX6_quiet 13 = .ok (.istore_n 2, 1) := by decide +kernel
theorem dX6_quiet_14 : decode cX6_quiet 14 = .ok (.iload_n 2, 1) := by decide +kernel
theorem dX6_quiet_15 : decode cX6_quiet 15 = .ok (.aload_n 0, 1) := by decide +kernel
theorem dX6_quiet_16 : decode cX6_quiet 16 = .ok (.invokevirtual 184, 3) := by decide +kernel
theorem dX6_quiet_19 : decode cX6_quiet 19 = .ok (.if_icmp .ge 30, 3) := by decide +kernel
theorem dX6_quiet_22 : decode cX6_quiet 22 = .ok (.aload_n 0, 1) := by decide +kernel
theorem dX6_quiet_23 : decode cX6_quiet 23 = .ok (.aload_n 0, 1) := by decide +kernel
theorem dX6_quiet_24 : decode cX6_quiet 24 = .ok (.getfield 7, 3) := by decide +kernel
theorem dX6_quiet_27 : decode cX6_quiet 27 = .ok (.sipush 182, 3) := by decide +kernel
theorem dX6_quiet_30 : decode cX6_quiet 30 = .ok (.iaload, 1) := by decide +kernel
theorem dX6_quiet_31 : decode cX6_quiet 31 = .ok (.iconst 1, 1) := by decide +kernel
theorem dX6_quiet_32 : decode cX6_quiet 32 = .ok (.isub, 1) := by decide +kernel
theorem dX6_quiet_33 : decode cX6_quiet 33 = .ok (.iload_n 2, 1) := by decide +kernel
theorem dX6_quiet_34 : decode cX6_quiet 34 = .ok (.isub, 1) := by decide +kernel
theorem dX6_quiet_35 : decode cX6_quiet 35 = .ok (.iconst 0, 1) := by decide +kernel
theorem dX6_quiet_36 : decode cX6_quiet 36 = .ok (.invokevirtual 181, 3) := by decide +kernel
theorem dX6_quiet_39 : decode cX6_quiet 39 = .ok (.iload_n 1, 1) := by decide +kernel
theorem dX6_quiet_40 : decode cX6_quiet 40 = .ok (.if_icmp .gt 9, 3) := by decide +kernel
theorem dX6_quiet_43 : decode cX6_quiet 43 = .ok (.iinc 2 1, 3) := by decide +kernel
theorem dX6_quiet_46 : decode cX6_quiet 46 = .ok (.goto (-32), 3) := by decide +kernel
theorem dX6_quiet_49 : decode cX6_quiet 49 = .ok (.iload_n 2, 1) := by decide +kernel
theorem dX6_quiet_50 : decode cX6_quiet 50 = .ok (.ireturn, 1) := by decide +kernel
def bfX6_quiet_49 (p1 : Int32) (S : MS) (x2 : Int32) : Option (Int32) :=
  some x2
def bfX6_quiet_14 (p1 : Int32) (S : MS) (K14 : Int32 → Option (Int32)) (x2 : Int32) : Option (Int32) :=
  ob (fX6_known  S) fun u4 => (if u4 ≤ x2 then bfX6_quiet_49 p1 S  x2 else ob (fX6_past ((((S.1 ((182 : Int32)).toNatClampNeg) - (1 : Int32)) - x2)) (0 : Int32) S) fun u5 => (if p1 < u5 then bfX6_quiet_49 p1 S  x2 else K14 ((x2 + (1 : Int32)))))
def fX6_quiet (p1 : Int32) (S : MS) : Option (Int32) :=
  ob (fX6_in p1 (0 : Int32) (16 : Int32)) fun u6 => (if u6 = 0 then some (-1 : Int32) else iter (bfX6_quiet_14 p1 S) FU ((0 : Int32)))
set_option maxHeartbeats 4000000 in
set_option maxRecDepth 100000 in
theorem kX6_quiet (l : Launch) (D : va_G) (cI cS : ClassId) (aM : Nat → Nat) (p1 : Int32) (S : MS) {q : Int32} (h : fX6_quiet p1 S = some q) : Mc l D (tyL cI cS) false yX6_quiet cX6_quiet 3 (some .int) 3 [.ref (aM 0), .int p1] (wM cI aM S) (some (.int q)) (wM cI aM S) := by
  refine Mc_of RX6 (by decide +kernel) rfl wc_X6_quiet (Nat.le_of_ble_eq_true rfl) ?_
  intro p e s m args below meth c A Q ls C hA hz hP hD hS hl RET
  have RETh : ∀ {pc : Nat} {ls : Array Slot} {H : Heap} {locs : List Loc} {x : Int32} , decode cX6_quiet pc = .ok (.ireturn, 1) → some x = some q → va_P D vwCl (wM cI aM S) H → va_D A (wM cI aM S) → va_S A s.heap H locs → W p l e (rmL 3) s m args below meth c H locs 0 0 Q (F0 m pc ls [.int x]) := by
    intro pc ls H locs x hd h hP hD hS; cases h; exact RET (x_iret C hd) hP hD hS
  have B49 : ∀ (x2 : Int32), bfX6_quiet_49 p1 S x2 = some q → ∀ (H : Heap) (locs : List Loc) (ls : Array Slot), va_P D vwCl (wM cI aM S) H → va_D A (wM cI aM S) → va_S A s.heap H locs → lv_has ls 3 [(2, .int x2)] → W p l e (rmL 3) s m args below meth c H locs 0 0 Q (F0 m 49 ls []) := by
    intro x2 h H locs ls hP hD hS hl
    refine x_iload_n C dX6_quiet_49 rfl hl 0 rfl ?_
    exact RETh dX6_quiet_50 h hP hD hS
  have B14 : ∀ (n : Nat) (x : Int32), iter (bfX6_quiet_14 p1 S) n x = some q → (fun (x2 : Int32) => ∀ (H : Heap) (locs : List Loc) (ls : Array Slot), va_P D vwCl (wM cI aM S) H → va_D A (wM cI aM S) → va_S A s.heap H locs → lv_has ls 3 [(0, .ref (aM 0)), (1, .int p1), (2, .int x2)] → W p l e (rmL 3) s m args below meth c H locs 0 0 Q (F0 m 14 ls [])) x := by
    refine iter_ind (fun x : Int32 => (fun (x2 : Int32) => ∀ (H : Heap) (locs : List Loc) (ls : Array Slot), va_P D vwCl (wM cI aM S) H → va_D A (wM cI aM S) → va_S A s.heap H locs → lv_has ls 3 [(0, .ref (aM 0)), (1, .int p1), (2, .int x2)] → W p l e (rmL 3) s m args below meth c H locs 0 0 Q (F0 m 14 ls [])) x) ?_
    intro K14 ih14 x h
    obtain ⟨x2, rfl⟩ : ∃ y, y = x := ⟨_, rfl⟩
    intro H locs ls hP hD hS hl
    refine x_iload_n C dX6_quiet_14 rfl hl 2 rfl ?_
    refine x_aload_n C dX6_quiet_15 rfl hl 0 rfl ?_
    obtain ⟨u4, hu4, h⟩ := ob_some h
    refine x_callV (As := []) (n := 0) C (kX6_known l D cI cS aM  _ hu4) (fun hh => nomatch hh) wm_X6_184 wi_X6_known we_X6_known wz_X6 wc_X6_known (by decide +kernel) rfl hP hD hS hA 0 3 rfl rfl rfl hl.1 dX6_quiet_16 rfl (Nat.le_of_ble_eq_true rfl) ⟨Nat.le_of_ble_eq_true rfl, Nat.le_of_ble_eq_true rfl⟩ ⟨Nat.zero_le _, Nat.zero_le _⟩ (fun H locs hP hD hS => ?_)
    refine x_icmp_ge (tgt := 49) C h dX6_quiet_19 (by decide) (fun h => ?_) (fun h => ?_)
    · exact B49 _ h _ _ _ hP hD hS (lv_sub hl [2] rfl)
    · refine x_aload_n C dX6_quiet_22 rfl hl 0 rfl ?_
      refine x_aload_n C dX6_quiet_23 rfl hl 0 rfl ?_
      refine x_get C inX6 hP 0 rfl rfl 0 (by decide) wf_X6_7 rfl dX6_quiet_24 ?_
      refine x_sipush (v := (182 : Int32)) C dX6_quiet_27 (by decide) ?_
      refine x_ialdK C (by decide) hP 1 rfl (t0 := 0) rfl dX6_quiet_30 ?_
      refine x_iconst (v := (1 : Int32)) C dX6_quiet_31 (by decide) ?_
      refine x_isub C dX6_quiet_32 ?_
      refine x_iload_n C dX6_quiet_33 rfl hl 2 rfl ?_
      refine x_isub C dX6_quiet_34 ?_
      refine x_iconst (v := (0 : Int32)) C dX6_quiet_35 (by decide) ?_
      obtain ⟨u5, hu5, h⟩ := ob_some h
      refine x_callV (As := [.int _, .int _]) (n := 2) C (kX6_past l D cI cS aM _ _ _ hu5) (fun hh => nomatch hh) wm_X6_181 wi_X6_past we_X6_past wz_X6 wc_X6_past (by decide +kernel) rfl hP hD hS hA 0 3 rfl rfl rfl hl.1 dX6_quiet_36 rfl (Nat.le_of_ble_eq_true rfl) ⟨Nat.le_of_ble_eq_true rfl, Nat.le_of_ble_eq_true rfl⟩ ⟨Nat.zero_le _, Nat.zero_le _⟩ (fun H locs hP hD hS => ?_)
      refine x_iload_n C dX6_quiet_39 rfl hl 1 rfl ?_
      refine x_icmp_gt (tgt := 49) C h dX6_quiet_40 (by decide) (fun h => ?_) (fun h => ?_)
      · exact B49 _ h _ _ _ hP hD hS (lv_sub hl [2] rfl)
      · refine x_iinc (v := (x2 + (1 : Int32))) (lv' := [(2, .int (x2 + (1 : Int32))), (0, .ref (aM 0)), (1, .int p1)]) C dX6_quiet_43 hl (k := 2) rfl rfl (by decide) rfl (fun ls hl => ?_)
        refine x_goto (tgt := 14) C dX6_quiet_46 (by decide) ?_
        exact ih14 _ h _ _ _ hP hD hS (lv_sub hl [1, 2, 0] rfl)
  refine x_iload_n C dX6_quiet_0 rfl hl 1 rfl ?_
  refine x_iconst (v := (0 : Int32)) C dX6_quiet_1 (by decide) ?_
  refine x_bipush (v := (16 : Int32)) C dX6_quiet_2 (by decide) ?_
  obtain ⟨u6, hu6, h⟩ := ob_some h
  refine x_callS (As := [.int _, .int _, .int _]) (n := 3) C (kX6_in l D cI cS _ _ _ _ hu6) (fun hh => nomatch hh) wm_X6_33 wt_X6_in wz_X6 wc_X6_in (by decide +kernel) rfl hP hD hS hA hl.1 dX6_quiet_4 rfl (Nat.le_of_ble_eq_true rfl) ⟨Nat.le_of_ble_eq_true rfl, Nat.le_of_ble_eq_true rfl⟩ ⟨Nat.zero_le _, Nat.zero_le _⟩ (fun H locs hP hD hS => ?_)
  refine x_if_ne (tgt := 12) C h dX6_quiet_7 (by decide) (fun h => ?_) (fun h => ?_)
  · refine x_iconst (v := (0 : Int32)) C dX6_quiet_12 (by decide) ?_
    refine x_istore_n (lv' := [(2, .int (0 : Int32)), (0, .ref (aM 0)), (1, .int p1)]) C dX6_quiet_13 rfl hl (by decide) rfl (fun ls hl => ?_)
    exact B14 FU _ h _ _ _ hP hD hS (lv_sub hl [1, 2, 0] rfl)
  · refine x_iconst (v := (-1 : Int32)) C dX6_quiet_10 (by decide) ?_
    exact RETh dX6_quiet_11 h hP hD hS
theorem dX6_recovery_0 : decode cX6_recovery 0 = .ok (.iload_n 1, 1) := by decide +kernel
theorem dX6_recovery_1 : decode cX6_recovery 1 = .ok (.invokestatic 37, 3) := by decide +kernel
theorem dX6_recovery_4 : decode cX6_recovery 4 = .ok (.ifCond .eq 13, 3) := by decide +kernel
theorem dX6_recovery_7 : decode cX6_recovery 7 = .ok (.iload_n 2, 1) := by decide +kernel
theorem dX6_recovery_8 : decode cX6_recovery 8 = .ok (.iconst 0, 1) := by decide +kernel
theorem dX6_recovery_9 : decode cX6_recovery 9 = .ok (.bipush 16, 2) := by decide +kernel
theorem dX6_recovery_11 : decode cX6_recovery 11 = .ok (.invokestatic 33, 3) := by decide +kernel
theorem dX6_recovery_14 : decode cX6_recovery 14 = .ok (.ifCond .ne 5, 3) := by decide +kernel
theorem dX6_recovery_17 : decode cX6_recovery 17 = .ok (.iconst (-1), 1) := by decide +kernel
theorem dX6_recovery_18 : decode cX6_recovery 18 = .ok (.ireturn, 1) := by decide +kernel
theorem dX6_recovery_19 : decode cX6_recovery 19 = .ok (.aload_n 0, 1) := by decide +kernel
theorem dX6_recovery_20 : decode cX6_recovery 20 = .ok (.getfield 7, 3) := by decide +kernel
theorem dX6_recovery_23 : decode cX6_recovery 23 = .ok (.bipush 72, 2) := by decide +kernel
theorem dX6_recovery_25 : decode cX6_recovery 25 = .ok (.iconst 3, 1) := by decide +kernel
theorem dX6_recovery_26 : decode cX6_recovery 26 = .ok (.iload_n 1, 1) := by decide +kernel
theorem dX6_recovery_27 : decode cX6_recovery 27 = .ok (.imul, 1) := by decide +kernel
theorem dX6_recovery_28 : decode cX6_recovery 28 = .ok (.iadd, 1) := by decide +kernel
theorem dX6_recovery_29 : decode cX6_recovery 29 = .ok (.iconst 2, 1) := by decide +kernel
theorem dX6_recovery_30 : decode cX6_recovery 30 = .ok (.iadd, 1) := by decide +kernel
theorem dX6_recovery_31 : decode cX6_recovery 31 = .ok (.iaload, 1) := by decide +kernel
theorem dX6_recovery_32 : decode cX6_recovery 32 = .ok (.istore_n 3, 1) := by decide +kernel
theorem dX6_recovery_33 : decode cX6_recovery 33 = .ok (.aload_n 0, 1) := by decide +kernel
theorem dX6_recovery_34 : decode cX6_recovery 34 = .ok (.getfield 7, 3) := by decide +kernel
theorem dX6_recovery_37 : decode cX6_recovery 37 = .ok (.sipush 182, 3) := by decide +kernel
theorem dX6_recovery_40 : decode cX6_recovery 40 = .ok (.iaload, 1) := by decide +kernel
theorem dX6_recovery_41 : decode cX6_recovery 41 = .ok (.aload_n 0, 1) := by decide +kernel
theorem dX6_recovery_42 : decode cX6_recovery 42 = .ok (.invokevirtual 184, 3) := by decide +kernel
theorem dX6_recovery_45 : decode cX6_recovery 45 = .ok (.isub, 1) := by decide +kernel
theorem dX6_recovery_46 : decode cX6_recovery 46 = .ok (.istore 4, 2) := by decide +kernel
theorem dX6_recovery_48 : decode cX6_recovery 48 = .ok (.iload 4, 2) := by decide +kernel
theorem dX6_recovery_50 : decode cX6_recovery 50 = .ok (.aload_n 0, 1) := by decide +kernel
theorem dX6_recovery_51 : decode cX6_recovery 51 = .ok (.getfield 7, 3) := by decide +kernel
theorem dX6_recovery_54 : decode cX6_recovery 54 = .ok (.sipush 182, 3) := by decide +kernel
theorem dX6_recovery_57 : decode cX6_recovery 57 = .ok (.iaload, 1) := by decide +kernel
theorem dX6_recovery_58 : decode cX6_recovery 58 = .ok (.if_icmp .ge 45, 3) := by decide +kernel
theorem dX6_recovery_61 : decode cX6_recovery 61 = .ok (.aload_n 0, 1) := by decide +kernel
theorem dX6_recovery_62 : decode cX6_recovery 62 = .ok (.getfield 7, 3) := by decide +kernel
theorem dX6_recovery_65 : decode cX6_recovery 65 = .ok (.bipush 72, 2) := by decide +kernel
theorem dX6_recovery_67 : decode cX6_recovery 67 = .ok (.iconst 3, 1) := by decide +kernel
theorem dX6_recovery_68 : decode cX6_recovery 68 = .ok (.iload_n 1, 1) := by decide +kernel
theorem dX6_recovery_69 : decode cX6_recovery 69 = .ok (.imul, 1) := by decide +kernel
theorem dX6_recovery_70 : decode cX6_recovery 70 = .ok (.iadd, 1) := by decide +kernel
theorem dX6_recovery_71 : decode cX6_recovery 71 = .ok (.iaload, 1) := by decide +kernel
theorem dX6_recovery_72 : decode cX6_recovery 72 = .ok (.ifCond .le 31, 3) := by decide +kernel
theorem dX6_recovery_75 : decode cX6_recovery 75 = .ok (.iload 4, 2) := by decide +kernel
theorem dX6_recovery_77 : decode cX6_recovery 77 = .ok (.iload_n 3, 1) := by decide +kernel
theorem dX6_recovery_78 : decode cX6_recovery 78 = .ok (.if_icmp .lt 19, 3) := by decide +kernel
theorem dX6_recovery_81 : decode cX6_recovery 81 = .ok (.aload_n 0, 1) := by decide +kernel
theorem dX6_recovery_82 : decode cX6_recovery 82 = .ok (.iload 4, 2) := by decide +kernel
theorem dX6_recovery_84 : decode cX6_recovery 84 = .ok (.iconst 0, 1) := by decide +kernel
theorem dX6_recovery_85 : decode cX6_recovery 85 = .ok (.invokevirtual 181, 3) := by decide +kernel
theorem dX6_recovery_88 : decode cX6_recovery 88 = .ok (.iload_n 2, 1) := by decide +kernel
theorem dX6_recovery_89 : decode cX6_recovery 89 = .ok (.if_icmp .gt 8, 3) := by decide +kernel
theorem dX6_recovery_92 : decode cX6_recovery 92 = .ok (.iload 4, 2) := by decide +kernel
theorem dX6_recovery_94 : decode cX6_recovery 94 = .ok (.iload_n 3, 1) := by decide +kernel
theorem dX6_recovery_95 : decode cX6_recovery 95 = .ok (.isub, 1) := by decide +kernel
theorem dX6_recovery_96 : decode cX6_recovery 96 = .ok (.ireturn, 1) := by decide +kernel
theorem dX6_recovery_97 : decode cX6_recovery 97 = .ok (.iinc 4 1, 3) := by decide +kernel
theorem dX6_recovery_100 : decode cX6_recovery 100 = .ok (.goto (-52), 3) := by decide +kernel
theorem dX6_recovery_103 : decode cX6_recovery 103 = .ok (.bipush (-9), 2) := by decide +kernel
theorem dX6_recovery_105 : decode cX6_recovery 105 = .ok (.ireturn, 1) := by decide +kernel
def bfX6_recovery_103 (p1 : Int32) (p2 : Int32) (S : MS) : Option (Int32) :=
  some (-9 : Int32)
def bfX6_recovery_97 (p1 : Int32) (p2 : Int32) (S : MS) (K48 : Int32 × Int32 → Option (Int32)) (x3 : Int32) (x4 : Int32) : Option (Int32) :=
  K48 (x3, (x4 + (1 : Int32)))
def bfX6_recovery_48 (p1 : Int32) (p2 : Int32) (S : MS) (K48 : Int32 × Int32 → Option (Int32)) (x : Int32 × Int32) : Option (Int32) :=
  match x with
  | (x3, x4) => (if (S.1 ((182 : Int32)).toNatClampNeg) ≤ x4 then bfX6_recovery_103 p1 p2 S else (if okI ((72 : Int32) + ((3 : Int32) * p1)) 5130 then (if (S.1 (((72 : Int32) + ((3 : Int32) * p1))).toNatClampNeg) ≤ 0 then bfX6_recovery_103 p1 p2 S else (if x4 < x3 then bfX6_recovery_97 p1 p2 S K48 x3 x4 else ob (fX6_past x4 (0 : Int32) S) fun u7 => (if p2 < u7 then bfX6_recovery_97 p1 p2 S K48 x3 x4 else some (x4 - x3)))) else none))
def bfX6_recovery_17 (p1 : Int32) (p2 : Int32) (S : MS) : Option (Int32) :=
  some (-1 : Int32)
def fX6_recovery (p1 : Int32) (p2 : Int32) (S : MS) : Option (Int32) :=
  ob (fX6_isClient p1) fun u8 => (if u8 = 0 then bfX6_recovery_17 p1 p2 S else ob (fX6_in p2 (0 : Int32) (16 : Int32)) fun u9 => (if u9 = 0 then bfX6_recovery_17 p1 p2 S else (if okI (((72 : Int32) + ((3 : Int32) * p1)) + (2 : Int32)) 5130 then nm ((S.1 ((((72 : Int32) + ((3 : Int32) * p1)) + (2 : Int32))).toNatClampNeg)) fun v10 => ob (fX6_known  S) fun u11 => nm (((S.1 ((182 : Int32)).toNatClampNeg) - u11)) fun v12 => iter (bfX6_recovery_48 p1 p2 S) FU (v10, v12) else none)))
set_option maxHeartbeats 4000000 in
set_option maxRecDepth 100000 in
theorem kX6_recovery (l : Launch) (D : va_G) (cI cS : ClassId) (aM : Nat → Nat) (p1 : Int32) (p2 : Int32) (S : MS) {q : Int32} (h : fX6_recovery p1 p2 S = some q) : Mc l D (tyL cI cS) false yX6_recovery cX6_recovery 5 (some .int) 3 [.ref (aM 0), .int p1, .int p2] (wM cI aM S) (some (.int q)) (wM cI aM S) := by
  refine Mc_of RX6 (by decide +kernel) rfl wc_X6_recovery (Nat.le_of_ble_eq_true rfl) ?_
  intro p e s m args below meth c A Q ls C hA hz hP hD hS hl RET
  have RETh : ∀ {pc : Nat} {ls : Array Slot} {H : Heap} {locs : List Loc} {x : Int32} , decode cX6_recovery pc = .ok (.ireturn, 1) → some x = some q → va_P D vwCl (wM cI aM S) H → va_D A (wM cI aM S) → va_S A s.heap H locs → W p l e (rmL 3) s m args below meth c H locs 0 0 Q (F0 m pc ls [.int x]) := by
    intro pc ls H locs x hd h hP hD hS; cases h; exact RET (x_iret C hd) hP hD hS
  have B103 : bfX6_recovery_103 p1 p2 S = some q → ∀ (H : Heap) (locs : List Loc) (ls : Array Slot), va_P D vwCl (wM cI aM S) H → va_D A (wM cI aM S) → va_S A s.heap H locs → lv_has ls 5 [] → W p l e (rmL 3) s m args below meth c H locs 0 0 Q (F0 m 103 ls []) := by
    intro  h H locs ls hP hD hS hl
    refine x_bipush (v := (-9 : Int32)) C dX6_recovery_103 (by decide) ?_
    exact RETh dX6_recovery_105 h hP hD hS
  have B97 : ∀ (K48 : Int32 × Int32 → Option (Int32)) (ih48 : ∀ x, K48 x = some q → (match x with | (x3, x4) => ∀ (H : Heap) (locs : List Loc) (ls : Array Slot), va_P D vwCl (wM cI aM S) H → va_D A (wM cI aM S) → va_S A s.heap H locs → lv_has ls 5 [(0, .ref (aM 0)), (1, .int p1), (2, .int p2), (3, .int x3), (4, .int x4)] → W p l e (rmL 3) s m args below meth c H locs 0 0 Q (F0 m 48 ls []))) (x3 : Int32) (x4 : Int32), bfX6_recovery_97 p1 p2 S K48 x3 x4 = some q → ∀ (H : Heap) (locs : List Loc) (ls : Array Slot), va_P D vwCl (wM cI aM S) H → va_D A (wM cI aM S) → va_S A s.heap H locs → lv_has ls 5 [(0, .ref (aM 0)), (1, .int p1), (2, .int p2), (3, .int x3), (4, .int x4)] → W p l e (rmL 3) s m args below meth c H locs 0 0 Q (F0 m 97 ls []) := by
    intro K48 ih48 x3 x4 h H locs ls hP hD hS hl
    refine x_iinc (v := (x4 + (1 : Int32))) (lv' := [(4, .int (x4 + (1 : Int32))), (0, .ref (aM 0)), (1, .int p1), (2, .int p2), (3, .int x3)]) C dX6_recovery_97 hl (k := 4) rfl rfl (by decide) rfl (fun ls hl => ?_)
    refine x_goto (tgt := 48) C dX6_recovery_100 (by decide) ?_
    exact ih48 _ h _ _ _ hP hD hS (lv_sub hl [1, 2, 3, 4, 0] rfl)
  have B48 : ∀ (n : Nat) (x : Int32 × Int32), iter (bfX6_recovery_48 p1 p2 S) n x = some q → (match x with | (x3, x4) => ∀ (H : Heap) (locs : List Loc) (ls : Array Slot), va_P D vwCl (wM cI aM S) H → va_D A (wM cI aM S) → va_S A s.heap H locs → lv_has ls 5 [(0, .ref (aM 0)), (1, .int p1), (2, .int p2), (3, .int x3), (4, .int x4)] → W p l e (rmL 3) s m args below meth c H locs 0 0 Q (F0 m 48 ls [])) := by
    refine iter_ind (fun x : Int32 × Int32 => (match x with | (x3, x4) => ∀ (H : Heap) (locs : List Loc) (ls : Array Slot), va_P D vwCl (wM cI aM S) H → va_D A (wM cI aM S) → va_S A s.heap H locs → lv_has ls 5 [(0, .ref (aM 0)), (1, .int p1), (2, .int p2), (3, .int x3), (4, .int x4)] → W p l e (rmL 3) s m args below meth c H locs 0 0 Q (F0 m 48 ls []))) ?_
    intro K48 ih48 x h
    obtain ⟨x3, x4⟩ := x
    intro H locs ls hP hD hS hl
    refine x_iload C dX6_recovery_48 hl 4 rfl ?_
    refine x_aload_n C dX6_recovery_50 rfl hl 0 rfl ?_
    refine x_get C inX6 hP 0 rfl rfl 0 (by decide) wf_X6_7 rfl dX6_recovery_51 ?_
    refine x_sipush (v := (182 : Int32)) C dX6_recovery_54 (by decide) ?_
    refine x_ialdK C (by decide) hP 1 rfl (t0 := 0) rfl dX6_recovery_57 ?_
    refine x_icmp_ge (tgt := 103) C h dX6_recovery_58 (by decide) (fun h => ?_) (fun h => ?_)
    · exact B103  h _ _ _ hP hD hS (lv_sub hl [] rfl)
    · refine x_aload_n C dX6_recovery_61 rfl hl 0 rfl ?_
      refine x_get C inX6 hP 0 rfl rfl 0 (by decide) wf_X6_7 rfl dX6_recovery_62 ?_
      refine x_bipush (v := (72 : Int32)) C dX6_recovery_65 (by decide) ?_
      refine x_iconst (v := (3 : Int32)) C dX6_recovery_67 (by decide) ?_
      refine x_iload_n C dX6_recovery_68 rfl hl 1 rfl ?_
      refine x_imul C dX6_recovery_69 ?_
      refine x_iadd C dX6_recovery_70 ?_
      refine x_iald C h hP 1 rfl (t0 := 0) rfl dX6_recovery_71 (fun h => ?_)
      refine x_if_le (tgt := 103) C h dX6_recovery_72 (by decide) (fun h => ?_) (fun h => ?_)
      · exact B103  h _ _ _ hP hD hS (lv_sub hl [] rfl)
      · refine x_iload C dX6_recovery_75 hl 4 rfl ?_
        refine x_iload_n C dX6_recovery_77 rfl hl 3 rfl ?_
        refine x_icmp_lt (tgt := 97) C h dX6_recovery_78 (by decide) (fun h => ?_) (fun h => ?_)
        · exact B97 K48 ih48 _ _ h _ _ _ hP hD hS hl
        · refine x_aload_n C dX6_recovery_81 rfl hl 0 rfl ?_
          refine x_iload C dX6_recovery_82 hl 4 rfl ?_
          refine x_iconst (v := (0 : Int32)) C dX6_recovery_84 (by decide) ?_
          obtain ⟨u7, hu7, h⟩ := ob_some h
          refine x_callV (As := [.int _, .int _]) (n := 2) C (kX6_past l D cI cS aM _ _ _ hu7) (fun hh => nomatch hh) wm_X6_181 wi_X6_past we_X6_past wz_X6 wc_X6_past (by decide +kernel) rfl hP hD hS hA 0 3 rfl rfl rfl hl.1 dX6_recovery_85 rfl (Nat.le_of_ble_eq_true rfl) ⟨Nat.le_of_ble_eq_true rfl, Nat.le_of_ble_eq_true rfl⟩ ⟨Nat.zero_le _, Nat.zero_le _⟩ (fun H locs hP hD hS => ?_)
          refine x_iload_n C dX6_recovery_88 rfl hl 2 rfl ?_
          refine x_icmp_gt (tgt := 97) C h dX6_recovery_89 (by decide) (fun h => ?_) (fun h => ?_)
          · exact B97 K48 ih48 _ _ h _ _ _ hP hD hS hl
          · refine x_iload C dX6_recovery_92 hl 4 rfl ?_
            refine x_iload_n C dX6_recovery_94 rfl hl 3 rfl ?_
            refine x_isub C dX6_recovery_95 ?_
            exact RETh dX6_recovery_96 h hP hD hS
  have B17 : bfX6_recovery_17 p1 p2 S = some q → ∀ (H : Heap) (locs : List Loc) (ls : Array Slot), va_P D vwCl (wM cI aM S) H → va_D A (wM cI aM S) → va_S A s.heap H locs → lv_has ls 5 [] → W p l e (rmL 3) s m args below meth c H locs 0 0 Q (F0 m 17 ls []) := by
    intro  h H locs ls hP hD hS hl
    refine x_iconst (v := (-1 : Int32)) C dX6_recovery_17 (by decide) ?_
    exact RETh dX6_recovery_18 h hP hD hS
  refine x_iload_n C dX6_recovery_0 rfl hl 1 rfl ?_
  obtain ⟨u8, hu8, h⟩ := ob_some h
  refine x_callS (As := [.int _]) (n := 1) C (kX6_isClient l D cI cS _ _ hu8) (fun hh => nomatch hh) wm_X6_37 wt_X6_isClient wz_X6 wc_X6_isClient (by decide +kernel) rfl hP hD hS hA hl.1 dX6_recovery_1 rfl (Nat.le_of_ble_eq_true rfl) ⟨Nat.le_of_ble_eq_true rfl, Nat.le_of_ble_eq_true rfl⟩ ⟨Nat.zero_le _, Nat.zero_le _⟩ (fun H locs hP hD hS => ?_)
  refine x_if_eq (tgt := 17) C h dX6_recovery_4 (by decide) (fun h => ?_) (fun h => ?_)
  · exact B17  h _ _ _ hP hD hS (lv_sub hl [] rfl)
  · refine x_iload_n C dX6_recovery_7 rfl hl 2 rfl ?_
    refine x_iconst (v := (0 : Int32)) C dX6_recovery_8 (by decide) ?_
    refine x_bipush (v := (16 : Int32)) C dX6_recovery_9 (by decide) ?_
    obtain ⟨u9, hu9, h⟩ := ob_some h
    refine x_callS (As := [.int _, .int _, .int _]) (n := 3) C (kX6_in l D cI cS _ _ _ _ hu9) (fun hh => nomatch hh) wm_X6_33 wt_X6_in wz_X6 wc_X6_in (by decide +kernel) rfl hP hD hS hA hl.1 dX6_recovery_11 rfl (Nat.le_of_ble_eq_true rfl) ⟨Nat.le_of_ble_eq_true rfl, Nat.le_of_ble_eq_true rfl⟩ ⟨Nat.zero_le _, Nat.zero_le _⟩ (fun H locs hP hD hS => ?_)
    refine x_if_ne (tgt := 19) C h dX6_recovery_14 (by decide) (fun h => ?_) (fun h => ?_)
    · refine x_aload_n C dX6_recovery_19 rfl hl 0 rfl ?_
      refine x_get C inX6 hP 0 rfl rfl 0 (by decide) wf_X6_7 rfl dX6_recovery_20 ?_
      refine x_bipush (v := (72 : Int32)) C dX6_recovery_23 (by decide) ?_
      refine x_iconst (v := (3 : Int32)) C dX6_recovery_25 (by decide) ?_
      refine x_iload_n C dX6_recovery_26 rfl hl 1 rfl ?_
      refine x_imul C dX6_recovery_27 ?_
      refine x_iadd C dX6_recovery_28 ?_
      refine x_iconst (v := (2 : Int32)) C dX6_recovery_29 (by decide) ?_
      refine x_iadd C dX6_recovery_30 ?_
      refine x_iald C h hP 1 rfl (t0 := 0) rfl dX6_recovery_31 (fun h => ?_)
      refine x_nmi h (fun v10 h => ?_)
      refine x_istore_n (lv' := [(3, .int v10), (0, .ref (aM 0)), (1, .int p1), (2, .int p2)]) C dX6_recovery_32 rfl hl (by decide) rfl (fun ls hl => ?_)
      refine x_aload_n C dX6_recovery_33 rfl hl 1 rfl ?_
      refine x_get C inX6 hP 0 rfl rfl 0 (by decide) wf_X6_7 rfl dX6_recovery_34 ?_
      refine x_sipush (v := (182 : Int32)) C dX6_recovery_37 (by decide) ?_
      refine x_ialdK C (by decide) hP 1 rfl (t0 := 0) rfl dX6_recovery_40 ?_
      refine x_aload_n C dX6_recovery_41 rfl hl 1 rfl ?_
      obtain ⟨u11, hu11, h⟩ := ob_some h
      refine x_callV (As := []) (n := 0) C (kX6_known l D cI cS aM  _ hu11) (fun hh => nomatch hh) wm_X6_184 wi_X6_known we_X6_known wz_X6 wc_X6_known (by decide +kernel) rfl hP hD hS hA 0 3 rfl rfl rfl hl.1 dX6_recovery_42 rfl (Nat.le_of_ble_eq_true rfl) ⟨Nat.le_of_ble_eq_true rfl, Nat.le_of_ble_eq_true rfl⟩ ⟨Nat.zero_le _, Nat.zero_le _⟩ (fun H locs hP hD hS => ?_)
      refine x_isub C dX6_recovery_45 ?_
      refine x_nmi h (fun v12 h => ?_)
      refine x_istore (lv' := [(4, .int v12), (3, .int v10), (0, .ref (aM 0)), (1, .int p1), (2, .int p2)]) C dX6_recovery_46 hl (by decide) rfl (fun ls hl => ?_)
      exact B48 FU _ h _ _ _ hP hD hS (lv_sub hl [2, 3, 4, 1, 0] rfl)
    · exact B17  h _ _ _ hP hD hS (lv_sub hl [] rfl)
theorem dX6_request_0 : decode cX6_request 0 = .ok (.iload_n 2, 1) := by decide +kernel
theorem dX6_request_1 : decode cX6_request 1 = .ok (.iconst 0, 1) := by decide +kernel
theorem dX6_request_2 : decode cX6_request 2 = .ok (.iconst 4, 1) := by decide +kernel
theorem dX6_request_3 : decode cX6_request 3 = .ok (.invokestatic 33, 3) := by decide +kernel
theorem dX6_request_6 : decode cX6_request 6 = .ok (.ifCond .ne 5, 3) := by decide +kernel
theorem dX6_request_9 : decode cX6_request 9 = .ok (.iconst (-1), 1) := by decide +kernel
theorem dX6_request_10 : decode cX6_request 10 = .ok (.ireturn, 1) := by decide +kernel
theorem dX6_request_11 : decode cX6_request 11 = .ok (.aload_n 0, 1) := by decide +kernel
theorem dX6_request_12 : decode cX6_request 12 = .ok (.iload_n 1, 1) := by decide +kernel
theorem dX6_request_13 : decode cX6_request 13 = .ok (.invokevirtual 84, 3) := by decide +kernel
theorem dX6_request_16 : decode cX6_request 16 = .ok (.istore_n 3, 1) := by decide +kernel
theorem dX6_request_17 : decode cX6_request 17 = .ok (.iload_n 3, 1) := by decide +kernel
theorem dX6_request_18 : decode cX6_request 18 = .ok (.bipush (-9), 2) := by decide +kernel
theorem dX6_request_20 : decode cX6_request 20 = .ok (.if_icmp .ne 8, 3) := by decide +kernel
theorem dX6_request_23 : decode cX6_request 23 = .ok (.bipush (-9), 2) := by decide +kernel
theorem dX6_request_25 : decode cX6_request 25 = .ok (.goto 9, 3) := by decide +kernel
theorem dX6_request_28 : decode cX6_request 28 = .ok (.aload_n 0, 1) := by decide +kernel
theorem dX6_request_29 : decode cX6_request 29 = .ok (.iload_n 3, 1) := by decide +kernel
theorem dX6_request_30 : decode cX6_request 30 = .ok (.iload_n 2, 1) := by decide +kernel
theorem dX6_request_31 : decode cX6_request 31 = .ok (.invokevirtual 175, 3) := by decide +kernel
theorem dX6_request_34 : decode cX6_request 34 = .ok (.ireturn, 1) := by decide +kernel
def bfX6_request_34 (p1 : Int32) (p2 : Int32) (S : MS) (s0 : Int32) : Option (Int32) :=
  some s0
def fX6_request (p1 : Int32) (p2 : Int32) (S : MS) : Option (Int32) :=
  ob (fX6_in p2 (0 : Int32) (4 : Int32)) fun u4 => (if u4 = 0 then some (-1 : Int32) else ob (fX6_placeOf p1 S) fun u5 => (if u5 = (-9 : Int32) then bfX6_request_34 p1 p2 S  ((-9 : Int32)) else ob (fX6_propertyOf u5 p2 S) fun u6 => bfX6_request_34 p1 p2 S  u6))
set_option maxHeartbeats 4000000 in
set_option maxRecDepth 100000 in
theorem kX6_request (l : Launch) (D : va_G) (cI cS : ClassId) (aM : Nat → Nat) (p1 : Int32) (p2 : Int32) (S : MS) {q : Int32} (h : fX6_request p1 p2 S = some q) : Mc l D (tyL cI cS) false yX6_request cX6_request 4 (some .int) 3 [.ref (aM 0), .int p1, .int p2] (wM cI aM S) (some (.int q)) (wM cI aM S) := by
  refine Mc_of RX6 (by decide +kernel) rfl wc_X6_request (Nat.le_of_ble_eq_true rfl) ?_
  intro p e s m args below meth c A Q ls C hA hz hP hD hS hl RET
  have RETh : ∀ {pc : Nat} {ls : Array Slot} {H : Heap} {locs : List Loc} {x : Int32} , decode cX6_request pc = .ok (.ireturn, 1) → some x = some q → va_P D vwCl (wM cI aM S) H → va_D A (wM cI aM S) → va_S A s.heap H locs → W p l e (rmL 3) s m args below meth c H locs 0 0 Q (F0 m pc ls [.int x]) := by
    intro pc ls H locs x hd h hP hD hS; cases h; exact RET (x_iret C hd) hP hD hS
  have B34 : ∀ (s0 : Int32), bfX6_request_34 p1 p2 S s0 = some q → ∀ (H : Heap) (locs : List Loc) (ls : Array Slot), va_P D vwCl (wM cI aM S) H → va_D A (wM cI aM S) → va_S A s.heap H locs → lv_has ls 4 [] → W p l e (rmL 3) s m args below meth c H locs 0 0 Q (F0 m 34 ls [.int s0]) := by
    intro s0 h H locs ls hP hD hS hl
    exact RETh dX6_request_34 h hP hD hS
  refine x_iload_n C dX6_request_0 rfl hl 2 rfl ?_
  refine x_iconst (v := (0 : Int32)) C dX6_request_1 (by decide) ?_
  refine x_iconst (v := (4 : Int32)) C dX6_request_2 (by decide) ?_
  obtain ⟨u4, hu4, h⟩ := ob_some h
  refine x_callS (As := [.int _, .int _, .int _]) (n := 3) C (kX6_in l D cI cS _ _ _ _ hu4) (fun hh => nomatch hh) wm_X6_33 wt_X6_in wz_X6 wc_X6_in (by decide +kernel) rfl hP hD hS hA hl.1 dX6_request_3 rfl (Nat.le_of_ble_eq_true rfl) ⟨Nat.le_of_ble_eq_true rfl, Nat.le_of_ble_eq_true rfl⟩ ⟨Nat.zero_le _, Nat.zero_le _⟩ (fun H locs hP hD hS => ?_)
  refine x_if_ne (tgt := 11) C h dX6_request_6 (by decide) (fun h => ?_) (fun h => ?_)
  · refine x_aload_n C dX6_request_11 rfl hl 0 rfl ?_
    refine x_iload_n C dX6_request_12 rfl hl 1 rfl ?_
    obtain ⟨u5, hu5, h⟩ := ob_some h
    refine x_callV (As := [.int _]) (n := 1) C (kX6_placeOf l D cI cS aM _ _ hu5) (fun hh => nomatch hh) wm_X6_84 wi_X6_placeOf we_X6_placeOf wz_X6 wc_X6_placeOf (by decide +kernel) rfl hP hD hS hA 0 3 rfl rfl rfl hl.1 dX6_request_13 rfl (Nat.le_of_ble_eq_true rfl) ⟨Nat.le_of_ble_eq_true rfl, Nat.le_of_ble_eq_true rfl⟩ ⟨Nat.zero_le _, Nat.zero_le _⟩ (fun H locs hP hD hS => ?_)
    refine x_istore_n (lv' := [(3, .int u5), (0, .ref (aM 0)), (1, .int p1), (2, .int p2)]) C dX6_request_16 rfl hl (by decide) rfl (fun ls hl => ?_)
    refine x_iload_n C dX6_request_17 rfl hl 0 rfl ?_
    refine x_bipush (v := (-9 : Int32)) C dX6_request_18 (by decide) ?_
    refine x_icmp_ne (tgt := 28) C h dX6_request_20 (by decide) (fun h => ?_) (fun h => ?_)
    · refine x_aload_n C dX6_request_28 rfl hl 1 rfl ?_
      refine x_iload_n C dX6_request_29 rfl hl 0 rfl ?_
      refine x_iload_n C dX6_request_30 rfl hl 3 rfl ?_
      obtain ⟨u6, hu6, h⟩ := ob_some h
      refine x_callV (As := [.int _, .int _]) (n := 2) C (kX6_propertyOf l D cI cS aM _ _ _ hu6) (fun hh => nomatch hh) wm_X6_175 wi_X6_propertyOf we_X6_propertyOf wz_X6 wc_X6_propertyOf (by decide +kernel) rfl hP hD hS hA 0 3 rfl rfl rfl hl.1 dX6_request_31 rfl (Nat.le_of_ble_eq_true rfl) ⟨Nat.le_of_ble_eq_true rfl, Nat.le_of_ble_eq_true rfl⟩ ⟨Nat.zero_le _, Nat.zero_le _⟩ (fun H locs hP hD hS => ?_)
      exact B34 _ h _ _ _ hP hD hS (lv_sub hl [] rfl)
    · refine x_bipush (v := (-9 : Int32)) C dX6_request_23 (by decide) ?_
      refine x_goto (tgt := 34) C dX6_request_25 (by decide) ?_
      exact B34 _ h _ _ _ hP hD hS (lv_sub hl [] rfl)
  · refine x_iconst (v := (-1 : Int32)) C dX6_request_9 (by decide) ?_
    exact RETh dX6_request_10 h hP hD hS
theorem dX6_run_0 : decode cX6_run 0 = .ok (.iload_n 1, 1) := by decide +kernel
theorem dX6_run_1 : decode cX6_run 1 = .ok (.iconst 1, 1) := by decide +kernel
theorem dX6_run_2 : decode cX6_run 2 = .ok (.bipush 60, 2) := by decide +kernel
theorem dX6_run_4 : decode cX6_run 4 = .ok (.invokestatic 33, 3) := by decide +kernel
theorem dX6_run_7 : decode cX6_run 7 = .ok (.ifCond .ne 5, 3) := by decide +kernel
theorem dX6_run_10 : decode cX6_run 10 = .ok (.iconst (-1), 1) := by decide +kernel
theorem dX6_run_11 : decode cX6_run 11 = .ok (.ireturn, 1) := by decide +kernel
theorem dX6_run_12 : decode cX6_run 12 = .ok (.aload_n 0, 1) := by decide +kernel
theorem dX6_run_13 : decode cX6_run 13 = .ok (.invokevirtual 41, 3) := by decide +kernel
theorem dX6_run_16 : decode cX6_run 16 = .ok (.aload_n 0, 1) := by decide +kernel
theorem dX6_run_17 : decode cX6_run 17 = .ok (.iload_n 1, 1) := by decide +kernel
theorem dX6_run_18 : decode cX6_run 18 = .ok (.invokevirtual 160, 3) := by decide +kernel
theorem dX6_run_21 : decode cX6_run 21 = .ok (.ireturn, 1) := by decide +kernel
def fX6_run (p1 : Int32) (S : MS) : Option (Int32 × (MS)) :=
  ob (fX6_in p1 (1 : Int32) (60 : Int32)) fun u4 => (if u4 = 0 then some ((-1 : Int32), S) else ob (fX6_begins  S) fun u5 => ob (fX6_runs p1 u5) fun u6 => some (u6.1, u6.2))
set_option maxHeartbeats 4000000 in
set_option maxRecDepth 100000 in
theorem kX6_run (l : Launch) (D : va_G) (cI cS : ClassId) (aM : Nat → Nat) (p1 : Int32) (S : MS) {q : Int32 × (MS)} (h : fX6_run p1 S = some q) : Mc l D (tyL cI cS) false yX6_run cX6_run 2 (some .int) 9 [.ref (aM 0), .int p1] (wM cI aM S) (some (.int q.1)) (wM cI aM q.2) := by
  refine Mc_of RX6 (by decide +kernel) rfl wc_X6_run (Nat.le_of_ble_eq_true rfl) ?_
  intro p e s m args below meth c A Q ls C hA hz hP hD hS hl RET
  have RETh : ∀ {pc : Nat} {ls : Array Slot} {H : Heap} {locs : List Loc} {x : Int32} {S1 : MS}, decode cX6_run pc = .ok (.ireturn, 1) → some (x, S1) = some q → va_P D vwCl (wM cI aM S1) H → va_D A (wM cI aM S1) → va_S A s.heap H locs → W p l e (rmL 9) s m args below meth c H locs 0 0 Q (F0 m pc ls [.int x]) := by
    intro pc ls H locs x S1 hd h hP hD hS; cases h; exact RET (x_iret C hd) hP hD hS
  refine x_iload_n C dX6_run_0 rfl hl 1 rfl ?_
  refine x_iconst (v := (1 : Int32)) C dX6_run_1 (by decide) ?_
  refine x_bipush (v := (60 : Int32)) C dX6_run_2 (by decide) ?_
  obtain ⟨u4, hu4, h⟩ := ob_some h
  refine x_callS (As := [.int _, .int _, .int _]) (n := 3) C (kX6_in l D cI cS _ _ _ _ hu4) (fun hh => nomatch hh) wm_X6_33 wt_X6_in wz_X6 wc_X6_in (by decide +kernel) rfl hP hD hS hA hl.1 dX6_run_4 rfl (Nat.le_of_ble_eq_true rfl) ⟨Nat.le_of_ble_eq_true rfl, Nat.le_of_ble_eq_true rfl⟩ ⟨Nat.zero_le _, Nat.zero_le _⟩ (fun H locs hP hD hS => ?_)
  refine x_if_ne (tgt := 12) C h dX6_run_7 (by decide) (fun h => ?_) (fun h => ?_)
  · refine x_aload_n C dX6_run_12 rfl hl 0 rfl ?_
    obtain ⟨u5, hu5, h⟩ := ob_some h
    refine x_callV (As := []) (n := 0) C (kX6_begins l D cI cS aM  _ hu5) (fun hh => nomatch hh) wm_X6_41 wi_X6_begins we_X6_begins wz_X6 wc_X6_begins (by decide +kernel) rfl hP hD hS hA 0 3 rfl rfl rfl hl.1 dX6_run_13 rfl (Nat.le_of_ble_eq_true rfl) ⟨Nat.le_of_ble_eq_true rfl, Nat.le_of_ble_eq_true rfl⟩ ⟨Nat.zero_le _, Nat.zero_le _⟩ (fun H locs hP hD hS => ?_)
    refine x_aload_n C dX6_run_16 rfl hl 0 rfl ?_
    refine x_iload_n C dX6_run_17 rfl hl 1 rfl ?_
    obtain ⟨u6, hu6, h⟩ := ob_some h
    refine x_callV (As := [.int _]) (n := 1) C (kX6_runs l D cI cS aM _ _ hu6) (fun hh => nomatch hh) wm_X6_160 wi_X6_runs we_X6_runs wz_X6 wc_X6_runs (by decide +kernel) rfl hP hD hS hA 0 3 rfl rfl rfl hl.1 dX6_run_18 rfl (Nat.le_of_ble_eq_true rfl) ⟨Nat.le_of_ble_eq_true rfl, Nat.le_of_ble_eq_true rfl⟩ ⟨Nat.zero_le _, Nat.zero_le _⟩ (fun H locs hP hD hS => ?_)
    exact RETh dX6_run_21 h hP hD hS
  · refine x_iconst (v := (-1 : Int32)) C dX6_run_10 (by decide) ?_
    exact RETh dX6_run_11 h hP hD hS
theorem dX6_set_0 : decode cX6_set 0 = .ok (.iload_n 1, 1) := by decide +kernel
theorem dX6_set_1 : decode cX6_set 1 = .ok (.invokestatic 37, 3) := by decide +kernel
theorem dX6_set_4 : decode cX6_set 4 = .ok (.ifCond .eq 32, 3) := by decide +kernel
theorem dX6_set_7 : decode cX6_set 7 = .ok (.iload_n 2, 1) := by decide +kernel
theorem dX6_set_8 : decode cX6_set 8 = .ok (.iconst 0, 1) := by decide +kernel
theorem dX6_set_9 : decode cX6_set 9 = .ok (.bipush 11, 2) := by decide +kernel
theorem dX6_set_11 : decode cX6_set 11 = .ok (.invokestatic 33, 3) := by decide +kernel
theorem dX6_set_14 : decode cX6_set 14 = .ok (.ifCond .eq 22, 3) := by decide +kernel
theorem dX6_set_17 : decode cX6_set 17 = .ok (.iload_n 3, 1) := by decide +kernel
theorem dX6_set_18 : decode cX6_set 18 = .ok (.aload_n 0, 1) := by decide +kernel
theorem dX6_set_19 : decode cX6_set 19 = .ok (.getfield 13, 3) := by decide +kernel
theorem dX6_set_22 : decode cX6_set 22 = .ok (.iload_n 2, 1) := by decide +kernel
theorem dX6_set_23 : decode cX6_set 23 = .ok (.iaload, 1) := by decide +kernel
theorem dX6_set_24 : decode cX6_set 24 = .ok (.aload_n 0, 1) := by decide +kernel
theorem dX6_set_25 : decode cX6_set 25 = .ok (.getfield 16, 3) := by decide +kernel
theorem dX6_set_28 : decode cX6_set 28 = .ok (.iload_n 2, 1) := by decide +kernel
theorem dX6_set_29 : decode cX6_set 29 = .ok (.iaload, 1) := by decide +kernel
theorem dX6_set_30 : decode cX6_set 30 = .ok (.invokestatic 33, 3) := by decide +kernel
theorem dX6_set_33 : decode cX6_set 33 = .ok (.ifCond .ne 5, 3) := by decide +kernel
theorem dX6_set_36 : decode cX6_set 36 = .ok (.iconst (-1), 1) := by decide +kernel
theorem dX6_set_37 : decode cX6_set 37 = .ok (.ireturn, 1) := by decide +kernel
theorem dX6_set_38 : decode cX6_set 38 = .ok (.aload_n 0, 1) := by decide +kernel
theorem dX6_set_39 : decode cX6_set 39 = .ok (.invokevirtual 41, 3) := by decide +kernel
theorem dX6_set_42 : decode cX6_set 42 = .ok (.aload_n 0, 1) := by decide +kernel
theorem dX6_set_43 : decode cX6_set 43 = .ok (.iload_n 1, 1) := by decide +kernel
theorem dX6_set_44 : decode cX6_set 44 = .ok (.iload_n 2, 1) := by decide +kernel
theorem dX6_set_45 : decode cX6_set 45 = .ok (.invokevirtual 44, 3) := by decide +kernel
theorem dX6_set_48 : decode cX6_set 48 = .ok (.istore 4, 2) := by decide +kernel
theorem dX6_set_50 : decode cX6_set 50 = .ok (.aload_n 0, 1) := by decide +kernel
theorem dX6_set_51 : decode cX6_set 51 = .ok (.getfield 7, 3) := by decide +kernel
theorem dX6_set_54 : decode cX6_set 54 = .ok (.iconst 0, 1) := by decide +kernel
theorem dX6_set_55 : decode cX6_set 55 = .ok (.bipush 12, 2) := by decide +kernel
theorem dX6_set_57 : decode cX6_set 57 = .ok (.iload_n 1, 1) := by decide +kernel
theorem dX6_set_58 : decode cX6_set 58 = .ok (.imul, 1) := by decide +kernel
theorem dX6_set_59 : decode cX6_set 59 = .ok (.iadd, 1) := by decide +kernel
theorem dX6_set_60 : decode cX6_set 60 = .ok (.iload_n 2, 1) := by decide +kernel
theorem dX6_set_61 : decode cX6_set 61 = .ok (.iadd, 1) := by decide +kernel
theorem dX6_set_62 : decode cX6_set 62 = .ok (.iload_n 3, 1) := by decide +kernel
theorem dX6_set_63 : decode cX6_set 63 = .ok (.iastore, 1) := by decide +kernel
theorem dX6_set_64 : decode cX6_set 64 = .ok (.iload_n 2, 1) := by decide +kernel
theorem dX6_set_65 : decode cX6_set 65 = .ok (.bipush 10, 2) := by decide +kernel
theorem dX6_set_67 : decode cX6_set 67 = .ok (.if_icmp .ne 22, 3) := by decide +kernel
theorem dX6_set_70 : decode cX6_set 70 = .ok (.aload_n 0, 1) := by decide +kernel
theorem dX6_set_71 : decode cX6_set 71 = .ok (.getfield 7, 3) := by decide +kernel
theorem dX6_set_74 : decode cX6_set 74 = .ok (.bipush 90, 2) := by decide +kernel
theorem dX6_set_76 : decode cX6_set 76 = .ok (.bipush 8, 2) := by decide +kernel
theorem dX6_set_78 : decode cX6_set 78 = .ok (.iload_n 1, 1) := by decide +kernel
theorem dX6_set_79 : decode cX6_set 79 = .ok (.imul, 1) := by decide +kernel
theorem dX6_set_80 : decode cX6_set 80 = .ok (.iadd, 1) := by decide +kernel
theorem dX6_set_81 : decode cX6_set 81 = .ok (.bipush 7, 2) := by decide +kernel
theorem dX6_set_83 : decode cX6_set 83 = .ok (.iadd, 1) := by decide +kernel
theorem dX6_set_84 : decode cX6_set 84 = .ok (.bipush 10, 2) := by decide +kernel
theorem dX6_set_86 : decode cX6_set 86 = .ok (.iload_n 3, 1) := by decide +kernel
theorem dX6_set_87 : decode cX6_set 87 = .ok (.imul, 1) := by decide +kernel
theorem dX6_set_88 : decode cX6_set 88 = .ok (.iastore, 1) := by decide +kernel
theorem dX6_set_89 : decode cX6_set 89 = .ok (.iload 4, 2) := by decide +kernel
theorem dX6_set_91 : decode cX6_set 91 = .ok (.ireturn, 1) := by decide +kernel
def bfX6_set_89 (p1 : Int32) (p2 : Int32) (p3 : Int32) (x4 : Int32) (S : MS) : Option (Int32 × (MS)) :=
  some (x4, S)
def bfX6_set_36 (p1 : Int32) (p2 : Int32) (p3 : Int32) (S : MS) : Option (Int32 × (MS)) :=
  some ((-1 : Int32), S)
def fX6_set (p1 : Int32) (p2 : Int32) (p3 : Int32) (S : MS) : Option (Int32 × (MS)) :=
  ob (fX6_isClient p1) fun u8 => (if u8 = 0 then bfX6_set_36 p1 p2 p3  S else ob (fX6_in p2 (0 : Int32) (11 : Int32)) fun u9 => (if u9 = 0 then bfX6_set_36 p1 p2 p3  S else (if okI p2 12 then (if okI p2 12 then ob (fX6_in p3 (((tabI leastL) (p2).toNatClampNeg)) (((tabI mostL) (p2).toNatClampNeg))) fun u10 => (if u10 = 0 then bfX6_set_36 p1 p2 p3  S else ob (fX6_begins  S) fun u11 => ob (fX6_of p1 p2 u11) fun u12 => (if okI (((0 : Int32) + ((12 : Int32) * p1)) + p2) 5130 then nm (upd u11.1 ((((0 : Int32) + ((12 : Int32) * p1)) + p2)).toNatClampNeg p3, u11.2) fun S13 => (if p2 = (10 : Int32) then (if okI (((90 : Int32) + ((8 : Int32) * p1)) + (7 : Int32)) 5130 then nm (upd S13.1 ((((90 : Int32) + ((8 : Int32) * p1)) + (7 : Int32))).toNatClampNeg ((10 : Int32) * p3), S13.2) fun S14 => bfX6_set_89 p1 p2 p3  u12 S14 else none) else bfX6_set_89 p1 p2 p3  u12 S13) else none)) else none) else none)))
set_option maxHeartbeats 4000000 in
set_option maxRecDepth 100000 in
theorem kX6_set (l : Launch) (D : va_G) (cI cS : ClassId) (aM : Nat → Nat) (p1 : Int32) (p2 : Int32) (p3 : Int32) (S : MS) {q : Int32 × (MS)} (h : fX6_set p1 p2 p3 S = some q) : Mc l D (tyL cI cS) false yX6_set cX6_set 5 (some .int) 3 [.ref (aM 0), .int p1, .int p2, .int p3] (wM cI aM S) (some (.int q.1)) (wM cI aM q.2) := by
  refine Mc_of RX6 (by decide +kernel) rfl wc_X6_set (Nat.le_of_ble_eq_true rfl) ?_
  intro p e s m args below meth c A Q ls C hA hz hP hD hS hl RET
  have RETh : ∀ {pc : Nat} {ls : Array Slot} {H : Heap} {locs : List Loc} {x : Int32} {S1 : MS}, decode cX6_set pc = .ok (.ireturn, 1) → some (x, S1) = some q → va_P D vwCl (wM cI aM S1) H → va_D A (wM cI aM S1) → va_S A s.heap H locs → W p l e (rmL 3) s m args below meth c H locs 0 0 Q (F0 m pc ls [.int x]) := by
    intro pc ls H locs x S1 hd h hP hD hS; cases h; exact RET (x_iret C hd) hP hD hS
  have B89 : ∀ (x4 : Int32) (S : MS), bfX6_set_89 p1 p2 p3 x4 S = some q → ∀ (H : Heap) (locs : List Loc) (ls : Array Slot), va_P D vwCl (wM cI aM S) H → va_D A (wM cI aM S) → va_S A s.heap H locs → lv_has ls 5 [(4, .int x4)] → W p l e (rmL 3) s m args below meth c H locs 0 0 Q (F0 m 89 ls []) := by
    intro x4 S h H locs ls hP hD hS hl
    refine x_iload C dX6_set_89 hl 0 rfl ?_
    exact RETh dX6_set_91 h hP hD hS
  have B36 : ∀ (S : MS), bfX6_set_36 p1 p2 p3 S = some q → ∀ (H : Heap) (locs : List Loc) (ls : Array Slot), va_P D vwCl (wM cI aM S) H → va_D A (wM cI aM S) → va_S A s.heap H locs → lv_has ls 5 [] → W p l e (rmL 3) s m args below meth c H locs 0 0 Q (F0 m 36 ls []) := by
    intro S h H locs ls hP hD hS hl
    refine x_iconst (v := (-1 : Int32)) C dX6_set_36 (by decide) ?_
    exact RETh dX6_set_37 h hP hD hS
  refine x_iload_n C dX6_set_0 rfl hl 1 rfl ?_
  obtain ⟨u8, hu8, h⟩ := ob_some h
  refine x_callS (As := [.int _]) (n := 1) C (kX6_isClient l D cI cS _ _ hu8) (fun hh => nomatch hh) wm_X6_37 wt_X6_isClient wz_X6 wc_X6_isClient (by decide +kernel) rfl hP hD hS hA hl.1 dX6_set_1 rfl (Nat.le_of_ble_eq_true rfl) ⟨Nat.le_of_ble_eq_true rfl, Nat.le_of_ble_eq_true rfl⟩ ⟨Nat.zero_le _, Nat.zero_le _⟩ (fun H locs hP hD hS => ?_)
  refine x_if_eq (tgt := 36) C h dX6_set_4 (by decide) (fun h => ?_) (fun h => ?_)
  · exact B36 _ h _ _ _ hP hD hS (lv_sub hl [] rfl)
  · refine x_iload_n C dX6_set_7 rfl hl 2 rfl ?_
    refine x_iconst (v := (0 : Int32)) C dX6_set_8 (by decide) ?_
    refine x_bipush (v := (11 : Int32)) C dX6_set_9 (by decide) ?_
    obtain ⟨u9, hu9, h⟩ := ob_some h
    refine x_callS (As := [.int _, .int _, .int _]) (n := 3) C (kX6_in l D cI cS _ _ _ _ hu9) (fun hh => nomatch hh) wm_X6_33 wt_X6_in wz_X6 wc_X6_in (by decide +kernel) rfl hP hD hS hA hl.1 dX6_set_11 rfl (Nat.le_of_ble_eq_true rfl) ⟨Nat.le_of_ble_eq_true rfl, Nat.le_of_ble_eq_true rfl⟩ ⟨Nat.zero_le _, Nat.zero_le _⟩ (fun H locs hP hD hS => ?_)
    refine x_if_eq (tgt := 36) C h dX6_set_14 (by decide) (fun h => ?_) (fun h => ?_)
    · exact B36 _ h _ _ _ hP hD hS (lv_sub hl [] rfl)
    · refine x_iload_n C dX6_set_17 rfl hl 3 rfl ?_
      refine x_aload_n C dX6_set_18 rfl hl 0 rfl ?_
      refine x_get C inX6 hP 0 rfl rfl 2 (by decide) wf_X6_13 rfl dX6_set_19 ?_
      refine x_iload_n C dX6_set_22 rfl hl 2 rfl ?_
      refine x_iald C h hP 2 rfl (t0 := 0) rfl dX6_set_23 (fun h => ?_)
      refine x_aload_n C dX6_set_24 rfl hl 0 rfl ?_
      refine x_get C inX6 hP 0 rfl rfl 3 (by decide) wf_X6_16 rfl dX6_set_25 ?_
      refine x_iload_n C dX6_set_28 rfl hl 2 rfl ?_
      refine x_iald C h hP 3 rfl (t0 := 0) rfl dX6_set_29 (fun h => ?_)
      obtain ⟨u10, hu10, h⟩ := ob_some h
      refine x_callS (As := [.int _, .int _, .int _]) (n := 3) C (kX6_in l D cI cS _ _ _ _ hu10) (fun hh => nomatch hh) wm_X6_33 wt_X6_in wz_X6 wc_X6_in (by decide +kernel) rfl hP hD hS hA hl.1 dX6_set_30 rfl (Nat.le_of_ble_eq_true rfl) ⟨Nat.le_of_ble_eq_true rfl, Nat.le_of_ble_eq_true rfl⟩ ⟨Nat.zero_le _, Nat.zero_le _⟩ (fun H locs hP hD hS => ?_)
      refine x_if_ne (tgt := 38) C h dX6_set_33 (by decide) (fun h => ?_) (fun h => ?_)
      · refine x_aload_n C dX6_set_38 rfl hl 0 rfl ?_
        obtain ⟨u11, hu11, h⟩ := ob_some h
        refine x_callV (As := []) (n := 0) C (kX6_begins l D cI cS aM  _ hu11) (fun hh => nomatch hh) wm_X6_41 wi_X6_begins we_X6_begins wz_X6 wc_X6_begins (by decide +kernel) rfl hP hD hS hA 0 3 rfl rfl rfl hl.1 dX6_set_39 rfl (Nat.le_of_ble_eq_true rfl) ⟨Nat.le_of_ble_eq_true rfl, Nat.le_of_ble_eq_true rfl⟩ ⟨Nat.zero_le _, Nat.zero_le _⟩ (fun H locs hP hD hS => ?_)
        refine x_aload_n C dX6_set_42 rfl hl 0 rfl ?_
        refine x_iload_n C dX6_set_43 rfl hl 1 rfl ?_
        refine x_iload_n C dX6_set_44 rfl hl 2 rfl ?_
        obtain ⟨u12, hu12, h⟩ := ob_some h
        refine x_callV (As := [.int _, .int _]) (n := 2) C (kX6_of l D cI cS aM _ _ _ hu12) (fun hh => nomatch hh) wm_X6_44 wi_X6_of we_X6_of wz_X6 wc_X6_of (by decide +kernel) rfl hP hD hS hA 0 3 rfl rfl rfl hl.1 dX6_set_45 rfl (Nat.le_of_ble_eq_true rfl) ⟨Nat.le_of_ble_eq_true rfl, Nat.le_of_ble_eq_true rfl⟩ ⟨Nat.zero_le _, Nat.zero_le _⟩ (fun H locs hP hD hS => ?_)
        refine x_istore (lv' := [(4, .int u12), (0, .ref (aM 0)), (1, .int p1), (2, .int p2), (3, .int p3)]) C dX6_set_48 hl (by decide) rfl (fun ls hl => ?_)
        refine x_aload_n C dX6_set_50 rfl hl 1 rfl ?_
        refine x_get C inX6 hP 0 rfl rfl 0 (by decide) wf_X6_7 rfl dX6_set_51 ?_
        refine x_iconst (v := (0 : Int32)) C dX6_set_54 (by decide) ?_
        refine x_bipush (v := (12 : Int32)) C dX6_set_55 (by decide) ?_
        refine x_iload_n C dX6_set_57 rfl hl 2 rfl ?_
        refine x_imul C dX6_set_58 ?_
        refine x_iadd C dX6_set_59 ?_
        refine x_iload_n C dX6_set_60 rfl hl 3 rfl ?_
        refine x_iadd C dX6_set_61 ?_
        refine x_iload_n C dX6_set_62 rfl hl 4 rfl ?_
        refine x_iastM (wM cI aM) C h hP hD hS 1 rfl (t0 := 0) rfl rfl dX6_set_63 (fun S13 h H locs hP hD hS => ?_)
        refine x_iload_n C dX6_set_64 rfl hl 3 rfl ?_
        refine x_bipush (v := (10 : Int32)) C dX6_set_65 (by decide) ?_
        refine x_icmp_ne (tgt := 89) C h dX6_set_67 (by decide) (fun h => ?_) (fun h => ?_)
        · exact B89 _ _ h _ _ _ hP hD hS (lv_sub hl [0] rfl)
        · refine x_aload_n C dX6_set_70 rfl hl 1 rfl ?_
          refine x_get C inX6 hP 0 rfl rfl 0 (by decide) wf_X6_7 rfl dX6_set_71 ?_
          refine x_bipush (v := (90 : Int32)) C dX6_set_74 (by decide) ?_
          refine x_bipush (v := (8 : Int32)) C dX6_set_76 (by decide) ?_
          refine x_iload_n C dX6_set_78 rfl hl 2 rfl ?_
          refine x_imul C dX6_set_79 ?_
          refine x_iadd C dX6_set_80 ?_
          refine x_bipush (v := (7 : Int32)) C dX6_set_81 (by decide) ?_
          refine x_iadd C dX6_set_83 ?_
          refine x_bipush (v := (10 : Int32)) C dX6_set_84 (by decide) ?_
          refine x_iload_n C dX6_set_86 rfl hl 4 rfl ?_
          refine x_imul C dX6_set_87 ?_
          refine x_iastM (wM cI aM) C h hP hD hS 1 rfl (t0 := 0) rfl rfl dX6_set_88 (fun S14 h H locs hP hD hS => ?_)
          exact B89 _ _ h _ _ _ hP hD hS (lv_sub hl [0] rfl)
      · exact B36 _ h _ _ _ hP hD hS (lv_sub hl [] rfl)
theorem dX6_setDiscipline_0 : decode cX6_setDiscipline 0 = .ok (.iload_n 1, 1) := by decide +kernel
theorem dX6_setDiscipline_1 : decode cX6_setDiscipline 1 = .ok (.iconst 0, 1) := by decide +kernel
theorem dX6_setDiscipline_2 : decode cX6_setDiscipline 2 = .ok (.iconst 3, 1) := by decide +kernel
theorem dX6_setDiscipline_3 : decode cX6_setDiscipline 3 = .ok (.invokestatic 33, 3) := by decide +kernel
theorem dX6_setDiscipline_6 : decode cX6_setDiscipline 6 = .ok (.ifCond .ne 5, 3) := by decide +kernel
theorem dX6_setDiscipline_9 : decode cX6_setDiscipline 9 = .ok (.iconst (-1), 1) := by decide +kernel
theorem dX6_setDiscipline_10 : decode cX6_setDiscipline 10 = .ok (.ireturn, 1) := by decide +kernel
theorem dX6_setDiscipline_11 : decode cX6_setDiscipline 11 = .ok (.aload_n 0, 1) := by decide +kernel
theorem dX6_setDiscipline_12 : decode cX6_setDiscipline 12 = .ok (.invokevirtual 41, 3) := by decide +kernel
theorem dX6_setDiscipline_15 : decode cX6_setDiscipline 15 = .ok (.aload_n 0, 1) := by decide +kernel
theorem dX6_setDiscipline_16 : decode cX6_setDiscipline 16 = .ok (.getfield 7, 3) := by decide +kernel
theorem dX6_setDiscipline_19 : decode cX6_setDiscipline 19 = .ok (.sipush 178, 3) := by decide +kernel
theorem dX6_setDiscipline_22 : decode cX6_setDiscipline 22 = .ok (.iaload, 1) := by decide +kernel
theorem dX6_setDiscipline_23 : decode cX6_setDiscipline 23 = .ok (.istore_n 2, 1) := by decide +kernel
theorem dX6_setDiscipline_24 : decode cX6_setDiscipline 24 = .ok (.aload_n 0, 1) := by decide +kernel
theorem dX6_setDiscipline_25 : decode cX6_setDiscipline 25 = .ok (.getfield 7, 3) := by decide +kernel
theorem dX6_setDiscipline_28 : decode cX6_setDiscipline 28 = .ok (.sipush 178, 3) := by decide +kernel
theorem dX6_setDiscipline_31 : decode cX6_setDiscipline 31 = .ok (.iload_n 1, 1) := by decide +kernel
theorem dX6_setDiscipline_32 : decode cX6_setDiscipline 32 = .ok (.iastore, 1) := by decide +kernel
theorem dX6_setDiscipline_33 : decode cX6_setDiscipline 33 = .ok (.iload_n 2, 1) := by decide +kernel
theorem dX6_setDiscipline_34 : decode cX6_setDiscipline 34 = .ok (.ireturn, 1) := by decide +kernel
def fX6_setDiscipline (p1 : Int32) (S : MS) : Option (Int32 × (MS)) :=
  ob (fX6_in p1 (0 : Int32) (3 : Int32)) fun u5 => (if u5 = 0 then some ((-1 : Int32), S) else ob (fX6_begins  S) fun u6 => nm ((u6.1 ((178 : Int32)).toNatClampNeg)) fun v7 => nm (upd u6.1 ((178 : Int32)).toNatClampNeg p1, u6.2) fun S8 => some (v7, S8))
set_option maxHeartbeats 4000000 in
set_option maxRecDepth 100000 in
theorem kX6_setDiscipline (l : Launch) (D : va_G) (cI cS : ClassId) (aM : Nat → Nat) (p1 : Int32) (S : MS) {q : Int32 × (MS)} (h : fX6_setDiscipline p1 S = some q) : Mc l D (tyL cI cS) false yX6_setDiscipline cX6_setDiscipline 3 (some .int) 3 [.ref (aM 0), .int p1] (wM cI aM S) (some (.int q.1)) (wM cI aM q.2) := by
  refine Mc_of RX6 (by decide +kernel) rfl wc_X6_setDiscipline (Nat.le_of_ble_eq_true rfl) ?_
  intro p e s m args below meth c A Q ls C hA hz hP hD hS hl RET
  have RETh : ∀ {pc : Nat} {ls : Array Slot} {H : Heap} {locs : List Loc} {x : Int32} {S1 : MS}, decode cX6_setDiscipline pc = .ok (.ireturn, 1) → some (x, S1) = some q → va_P D vwCl (wM cI aM S1) H → va_D A (wM cI aM S1) → va_S A s.heap H locs → W p l e (rmL 3) s m args below meth c H locs 0 0 Q (F0 m pc ls [.int x]) := by
    intro pc ls H locs x S1 hd h hP hD hS; cases h; exact RET (x_iret C hd) hP hD hS
  refine x_iload_n C dX6_setDiscipline_0 rfl hl 1 rfl ?_
  refine x_iconst (v := (0 : Int32)) C dX6_setDiscipline_1 (by decide) ?_
  refine x_iconst (v := (3 : Int32)) C dX6_setDiscipline_2 (by decide) ?_
  obtain ⟨u5, hu5, h⟩ := ob_some h
  refine x_callS (As := [.int _, .int _, .int _]) (n := 3) C (kX6_in l D cI cS _ _ _ _ hu5) (fun hh => nomatch hh) wm_X6_33 wt_X6_in wz_X6 wc_X6_in (by decide +kernel) rfl hP hD hS hA hl.1 dX6_setDiscipline_3 rfl (Nat.le_of_ble_eq_true rfl) ⟨Nat.le_of_ble_eq_true rfl, Nat.le_of_ble_eq_true rfl⟩ ⟨Nat.zero_le _, Nat.zero_le _⟩ (fun H locs hP hD hS => ?_)
  refine x_if_ne (tgt := 11) C h dX6_setDiscipline_6 (by decide) (fun h => ?_) (fun h => ?_)
  · refine x_aload_n C dX6_setDiscipline_11 rfl hl 0 rfl ?_
    obtain ⟨u6, hu6, h⟩ := ob_some h
    refine x_callV (As := []) (n := 0) C (kX6_begins l D cI cS aM  _ hu6) (fun hh => nomatch hh) wm_X6_41 wi_X6_begins we_X6_begins wz_X6 wc_X6_begins (by decide +kernel) rfl hP hD hS hA 0 3 rfl rfl rfl hl.1 dX6_setDiscipline_12 rfl (Nat.le_of_ble_eq_true rfl) ⟨Nat.le_of_ble_eq_true rfl, Nat.le_of_ble_eq_true rfl⟩ ⟨Nat.zero_le _, Nat.zero_le _⟩ (fun H locs hP hD hS => ?_)
    refine x_aload_n C dX6_setDiscipline_15 rfl hl 0 rfl ?_
    refine x_get C inX6 hP 0 rfl rfl 0 (by decide) wf_X6_7 rfl dX6_setDiscipline_16 ?_
    refine x_sipush (v := (178 : Int32)) C dX6_setDiscipline_19 (by decide) ?_
    refine x_ialdK C (by decide) hP 1 rfl (t0 := 0) rfl dX6_setDiscipline_22 ?_
    refine x_nmi h (fun v7 h => ?_)
    refine x_istore_n (lv' := [(2, .int v7), (0, .ref (aM 0)), (1, .int p1)]) C dX6_setDiscipline_23 rfl hl (by decide) rfl (fun ls hl => ?_)
    refine x_aload_n C dX6_setDiscipline_24 rfl hl 1 rfl ?_
    refine x_get C inX6 hP 0 rfl rfl 0 (by decide) wf_X6_7 rfl dX6_setDiscipline_25 ?_
    refine x_sipush (v := (178 : Int32)) C dX6_setDiscipline_28 (by decide) ?_
    refine x_iload_n C dX6_setDiscipline_31 rfl hl 2 rfl ?_
    refine x_iastMK (wM cI aM) C h (by decide) hP hD hS 1 rfl (t0 := 0) rfl rfl dX6_setDiscipline_32 (fun S8 h H locs hP hD hS => ?_)
    refine x_iload_n C dX6_setDiscipline_33 rfl hl 0 rfl ?_
    exact RETh dX6_setDiscipline_34 h hP hD hS
  · refine x_iconst (v := (-1 : Int32)) C dX6_setDiscipline_9 (by decide) ?_
    exact RETh dX6_setDiscipline_10 h hP hD hS
theorem dX6_setServer_0 : decode cX6_setServer 0 = .ok (.iload_n 1, 1) := by decide +kernel
theorem dX6_setServer_1 : decode cX6_setServer 1 = .ok (.iconst 0, 1) := by decide +kernel
theorem dX6_setServer_2 : decode cX6_setServer 2 = .ok (.iconst 3, 1) := by decide +kernel
theorem dX6_setServer_3 : decode cX6_setServer 3 = .ok (.invokestatic 33, 3) := by decide +kernel
theorem dX6_setServer_6 : decode cX6_setServer 6 = .ok (.ifCond .eq 23, 3) := by decide +kernel
theorem dX6_setServer_9 : decode cX6_setServer 9 = .ok (.iload_n 2, 1) := by decide +kernel
theorem dX6_setServer_10 : decode cX6_setServer 10 = .ok (.iconst 1, 1) := by decide +kernel
theorem dX6_setServer_11 : decode cX6_setServer 11 = .ok (.iload_n 1, 1) := by decide +kernel
theorem dX6_setServer_12 : decode cX6_setServer 12 = .ok (.iconst 2, 1) := by decide +kernel
theorem dX6_setServer_13 : decode cX6_setServer 13 = .ok (.irem, 1) := by decide +kernel
theorem dX6_setServer_14 : decode cX6_setServer 14 = .ok (.ifCond .ne 7, 3) := by decide +kernel
theorem dX6_setServer_17 : decode cX6_setServer 17 = .ok (.iconst 4, 1) := by decide +kernel
theorem dX6_setServer_18 : decode cX6_setServer 18 = .ok (.goto 5, 3) := by decide +kernel
theorem dX6_setServer_21 : decode cX6_setServer 21 = .ok (.bipush 16, 2) := by decide +kernel
theorem dX6_setServer_23 : decode cX6_setServer 23 = .ok (.invokestatic 33, 3) := by decide +kernel
theorem dX6_setServer_26 : decode cX6_setServer 26 = .ok (.ifCond .ne 5, 3) := by decide +kernel
theorem dX6_setServer_29 : decode cX6_setServer 29 = .ok (.iconst (-1), 1) := by decide +kernel
theorem dX6_setServer_30 : decode cX6_setServer 30 = .ok (.ireturn, 1) := by decide +kernel
theorem dX6_setServer_31 : decode cX6_setServer 31 = .ok (.iload_n 1, 1) := by decide +kernel
theorem dX6_setServer_32 : decode cX6_setServer 32 = .ok (.iconst 1, 1) := by decide +kernel
theorem dX6_setServer_33 : decode cX6_setServer 33 = .ok (.if_icmp .ne 23, 3) := by decide +kernel
theorem dX6_setServer_36 : decode cX6_setServer 36 = .ok (.aload_n 0, 1) := by decide +kernel
theorem dX6_setServer_37 : decode cX6_setServer 37 = .ok (.getfield 7, 3) := by decide +kernel
theorem dX6_setServer_40 : decode cX6_setServer 40 = .ok (.sipush 557, 3) := by decide +kernel
theorem dX6_setServer_43 : decode cX6_setServer 43 = .ok (.iaload, 1) := by decide +kernel
theorem dX6_setServer_44 : decode cX6_setServer 44 = .ok (.iload_n 2, 1) := by decide +kernel
theorem dX6_setServer_45 : decode cX6_setServer 45 = .ok (.if_icmp .gt 7, 3) := by decide +kernel
theorem dX6_setServer_48 : decode cX6_setServer 48 = .ok (.iconst 1, 1) := by decide +kernel
theorem dX6_setServer_49 : decode cX6_setServer 49 = .ok (.goto 29, 3) := by decide +kernel
theorem dX6_setServer_52 : decode cX6_setServer 52 = .ok (.iconst 0, 1) := by decide +kernel
theorem dX6_setServer_53 : decode cX6_setServer 53 = .ok (.goto 25, 3) := by decide +kernel
theorem dX6_setServer_56 : decode cX6_setServer 56 = .ok (.iload_n 1, 1) := by decide +kernel
theorem dX6_setServer_57 : decode cX6_setServer 57 = .ok (.iconst 3, 1) := by decide +kernel
theorem dX6_setServer_58 : decode cX6_setServer 58 = .ok (.if_icmp .ne 15, 3) := by decide +kernel
theorem dX6_setServer_61 : decode cX6_setServer 61 = .ok (.aload_n 0, 1) := by decide +kernel
theorem dX6_setServer_62 : decode cX6_setServer 62 = .ok (.getfield 7, 3) := by decide +kernel
theorem dX6_setServer_65 : decode cX6_setServer 65 = .ok (.sipush 574, 3) := by decide +kernel
theorem dX6_setServer_68 : decode cX6_setServer 68 = .ok (.iaload, 1) := by decide +kernel
theorem dX6_setServer_69 : decode cX6_setServer 69 = .ok (.iload_n 2, 1) := by decide +kernel
theorem dX6_setServer_70 : decode cX6_setServer 70 = .ok (.if_icmp .gt 7, 3) := by decide +kernel
theorem dX6_setServer_73 : decode cX6_setServer 73 = .ok (.iconst 1, 1) := by decide +kernel
theorem dX6_setServer_74 : decode cX6_setServer 74 = .ok (.goto 4, 3) := by decide +kernel
theorem dX6_setServer_77 : decode cX6_setServer 77 = .ok (.iconst 0, 1) := by decide +kernel
theorem dX6_setServer_78 : decode cX6_setServer 78 = .ok (.istore_n 3, 1) := by decide +kernel
theorem dX6_setServer_79 : decode cX6_setServer 79 = .ok (.iload_n 2, 1) := by decide +kernel
theorem dX6_setServer_80 : decode cX6_setServer 80 = .ok (.istore 4, 2) := by decide +kernel
theorem dX6_setServer_82 : decode cX6_setServer 82 = .ok (.iload 4, 2) := by decide +kernel
theorem dX6_setServer_84 : decode cX6_setServer 84 = .ok (.iconst 4, 1) := by decide +kernel
theorem dX6_setServer_85 : decode cX6_setServer 85 = .ok (.if_icmp .ge 51, 3) := by decide +kernel
theorem dX6_setServer_88 : decode cX6_setServer 88 = .ok (.iload_n 1, 1) := by decide +kernel
theorem dX6_setServer_89 : decode cX6_setServer 89 = .ok (.iconst 2, 1) := by decide +kernel
theorem dX6_setServer_90 : decode cX6_setServer 90 = .ok (.irem, 1) := by decide +kernel
theorem dX6_setServer_91 : decode cX6_setServer 91 = .ok (.ifCond .ne 45, 3) := by decide +kernel
theorem dX6_setServer_94 : decode cX6_setServer 94 = .ok (.iload_n 3, 1) := by decide +kernel
theorem dX6_setServer_95 : decode cX6_setServer 95 = .ok (.ifCond .eq 33, 3) := by decide +kernel
theorem dX6_setServer_98 : decode cX6_setServer 98 = .ok (.aload_n 0, 1) := by decide +kernel
theorem dX6_setServer_99 : decode cX6_setServer 99 = .ok (.getfield 7, 3) := by decide +kernel
theorem dX6_setServer_102 : decode cX6_setServer 102 = .ok (.iload_n 1, 1) := by decide +kernel
theorem dX6_setServer_103 : decode cX6_setServer 103 = .ok (.ifCond .ne 9, 3) := by decide +kernel
theorem dX6_setServer_106 : decode cX6_setServer 106 = .ok (.sipush 591, 3) := by decide +kernel
theorem dX6_setServer_109 : decode cX6_setServer 109 = .ok (.goto 6, 3) := by decide +kernel
theorem dX6_setServer_112 : decode cX6_setServer 112 = .ok (.sipush 595, 3) := by decide +kernel
theorem dX6_setServer_115 : decode cX6_setServer 115 = .ok (.iload 4, 2) := by decide +kernel
theorem dX6_setServer_117 : decode cX6_setServer 117 = .ok (.iadd, 1) := by decide +kernel
theorem dX6_setServer_118 : decode cX6_setServer 118 = .ok (.iaload, 1) := by decide +kernel
theorem dX6_setServer_119 : decode cX6_setServer 119 = .ok (.bipush (-9), 2) := by decide +kernel
theorem dX6_setServer_121 : decode cX6_setServer 121 = .ok (.if_icmp .ne 7, 3) := by decide +kernel
theorem dX6_setServer_124 : decode cX6_setServer 124 = .ok (.iconst 1, 1) := by decide +kernel
theorem dX6_setServer_125 : decode cX6_setServer 125 = .ok (.goto 4, 3) := by decide +kernel
theorem dX6_setServer_128 : decode cX6_setServer 128 = .ok (.iconst 0, 1) := by decide +kernel
theorem dX6_setServer_129 : decode cX6_setServer 129 = .ok (.istore_n 3, 1) := by decide +kernel
theorem dX6_setServer_130 : decode cX6_setServer 130 = .ok (.iinc 4 1, 3) := by decide +kernel
theorem dX6_setServer_133 : decode cX6_setServer 133 = .ok (.goto (-51), 3) := by decide +kernel
theorem dX6_setServer_136 : decode cX6_setServer 136 = .ok (.iload_n 3, 1) := by decide +kernel
theorem dX6_setServer_137 : decode cX6_setServer 137 = .ok (.ifCond .ne 6, 3) := by decide +kernel
theorem dX6_setServer_140 : decode cX6_setServer 140 = .ok (.bipush (-2), 2) := by decide +kernel
theorem dX6_setServer_142 : decode cX6_setServer 142 = .ok (.ireturn, 1) := by decide +kernel
theorem dX6_setServer_143 : decode cX6_setServer 143 = .ok (.aload_n 0, 1) := by decide +kernel
theorem dX6_setServer_144 : decode cX6_setServer 144 = .ok (.invokevirtual 41, 3) := by decide +kernel
theorem dX6_setServer_147 : decode cX6_setServer 147 = .ok (.aload_n 0, 1) := by decide +kernel
theorem dX6_setServer_148 : decode cX6_setServer 148 = .ok (.getfield 7, 3) := by decide +kernel
theorem dX6_setServer_151 : decode cX6_setServer 151 = .ok (.sipush 174, 3) := by decide +kernel
theorem dX6_setServer_154 : decode cX6_setServer 154 = .ok (.iload_n 1, 1) := by decide +kernel
theorem dX6_setServer_155 : decode cX6_setServer 155 = .ok (.iadd, 1) := by decide +kernel
theorem dX6_setServer_156 : decode cX6_setServer 156 = .ok (.iaload, 1) := by decide +kernel
theorem dX6_setServer_157 : decode cX6_setServer 157 = .ok (.istore 4, 2) := by decide +kernel
theorem dX6_setServer_159 : decode cX6_setServer 159 = .ok (.aload_n 0, 1) := by decide +kernel
theorem dX6_setServer_160 : decode cX6_setServer 160 = .ok (.getfield 7, 3) := by decide +kernel
theorem dX6_setServer_163 : decode cX6_setServer 163 = .ok (.sipush 174, 3) := by decide +kernel
theorem dX6_setServer_166 : decode cX6_setServer 166 = .ok (.iload_n 1, 1) := by decide +kernel
theorem dX6_setServer_167 : decode cX6_setServer 167 = .ok (.iadd, 1) := by decide +kernel
theorem dX6_setServer_168 : decode cX6_setServer 168 = .ok (.iload_n 2, 1) := by decide +kernel
theorem dX6_setServer_169 : decode cX6_setServer 169 = .ok (.iastore, 1) := by decide +kernel
theorem dX6_setServer_170 : decode cX6_setServer 170 = .ok (.iload 4, 2) := by decide +kernel
theorem dX6_setServer_172 : decode cX6_setServer 172 = .ok (.ireturn, 1) := by decide +kernel
def bfX6_setServer_136 (p1 : Int32) (p2 : Int32) (x3 : Int32) (S : MS) : Option (Int32 × (MS)) :=
  (if x3 = 0 then some ((-2 : Int32), S) else ob (fX6_begins  S) fun u6 => (if okI ((174 : Int32) + p1) 5130 then nm ((u6.1 (((174 : Int32) + p1)).toNatClampNeg)) fun v7 => (if okI ((174 : Int32) + p1) 5130 then nm (upd u6.1 (((174 : Int32) + p1)).toNatClampNeg p2, u6.2) fun S8 => some (v7, S8) else none) else none))
def bfX6_setServer_129 (p1 : Int32) (p2 : Int32) (K82 : Int32 × Int32 × (MS) → Option (Int32 × (MS))) (x4 : Int32) (s0 : Int32) (S : MS) : Option (Int32 × (MS)) :=
  K82 (s0, (x4 + (1 : Int32)), S)
def bfX6_setServer_128 (p1 : Int32) (p2 : Int32) (K82 : Int32 × Int32 × (MS) → Option (Int32 × (MS))) (x4 : Int32) (S : MS) : Option (Int32 × (MS)) :=
  bfX6_setServer_129 p1 p2 K82 x4 ((0 : Int32)) S
def bfX6_setServer_115 (p1 : Int32) (p2 : Int32) (K82 : Int32 × Int32 × (MS) → Option (Int32 × (MS))) (x4 : Int32) (s1 : Int32) (S : MS) : Option (Int32 × (MS)) :=
  (if okI (s1 + x4) 5130 then (if (S.1 ((s1 + x4)).toNatClampNeg) = (-9 : Int32) then bfX6_setServer_129 p1 p2 K82 x4 ((1 : Int32)) S else bfX6_setServer_128 p1 p2 K82 x4 S) else none)
def bfX6_setServer_82 (p1 : Int32) (p2 : Int32) (K82 : Int32 × Int32 × (MS) → Option (Int32 × (MS))) (x : Int32 × Int32 × (MS)) : Option (Int32 × (MS)) :=
  match x with
  | (x3, x4, S) => (if (4 : Int32) ≤ x4 then bfX6_setServer_136 p1 p2  x3 S else (if (p1 - p1 / (2 : Int32) * (2 : Int32)) = 0 then (if x3 = 0 then bfX6_setServer_128 p1 p2 K82 x4 S else (if p1 = 0 then bfX6_setServer_115 p1 p2 K82 x4 ((591 : Int32)) S else bfX6_setServer_115 p1 p2 K82 x4 ((595 : Int32)) S)) else bfX6_setServer_136 p1 p2  x3 S))
def bfX6_setServer_78 (p1 : Int32) (p2 : Int32) (s0 : Int32) (S : MS) : Option (Int32 × (MS)) :=
  iter (bfX6_setServer_82 p1 p2) FU (s0, p2, S)
def bfX6_setServer_73 (p1 : Int32) (p2 : Int32) (S : MS) : Option (Int32 × (MS)) :=
  bfX6_setServer_78 p1 p2  ((1 : Int32)) S
def bfX6_setServer_29 (p1 : Int32) (p2 : Int32) (S : MS) : Option (Int32 × (MS)) :=
  some ((-1 : Int32), S)
def bfX6_setServer_23 (p1 : Int32) (p2 : Int32) (s0 : Int32) (s1 : Int32) (s2 : Int32) (S : MS) : Option (Int32 × (MS)) :=
  ob (fX6_in s0 s1 s2) fun u9 => (if u9 = 0 then bfX6_setServer_29 p1 p2  S else (if p1 = (1 : Int32) then (if p2 < (S.1 ((557 : Int32)).toNatClampNeg) then bfX6_setServer_78 p1 p2  ((0 : Int32)) S else bfX6_setServer_78 p1 p2  ((1 : Int32)) S) else (if p1 = (3 : Int32) then (if p2 < (S.1 ((574 : Int32)).toNatClampNeg) then bfX6_setServer_78 p1 p2  ((0 : Int32)) S else bfX6_setServer_73 p1 p2  S) else bfX6_setServer_73 p1 p2  S)))
def fX6_setServer (p1 : Int32) (p2 : Int32) (S : MS) : Option (Int32 × (MS)) :=
  ob (fX6_in p1 (0 : Int32) (3 : Int32)) fun u10 => (if u10 = 0 then bfX6_setServer_29 p1 p2  S else (if (p1 - p1 / (2 : Int32) * (2 : Int32)) = 0 then bfX6_setServer_23 p1 p2  p2 ((1 : Int32)) ((4 : Int32)) S else bfX6_setServer_23 p1 p2  p2 ((1 : Int32)) ((16 : Int32)) S))
set_option maxHeartbeats 4000000 in
set_option maxRecDepth 100000 in
theorem kX6_setServer (l : Launch) (D : va_G) (cI cS : ClassId) (aM : Nat → Nat) (p1 : Int32) (p2 : Int32) (S : MS) {q : Int32 × (MS)} (h : fX6_setServer p1 p2 S = some q) : Mc l D (tyL cI cS) false yX6_setServer cX6_setServer 5 (some .int) 3 [.ref (aM 0), .int p1, .int p2] (wM cI aM S) (some (.int q.1)) (wM cI aM q.2) := by
  refine Mc_of RX6 (by decide +kernel) rfl wc_X6_setServer (Nat.le_of_ble_eq_true rfl) ?_
  intro p e s m args below meth c A Q ls C hA hz hP hD hS hl RET
  have RETh : ∀ {pc : Nat} {ls : Array Slot} {H : Heap} {locs : List Loc} {x : Int32} {S1 : MS}, decode cX6_setServer pc = .ok (.ireturn, 1) → some (x, S1) = some q → va_P D vwCl (wM cI aM S1) H → va_D A (wM cI aM S1) → va_S A s.heap H locs → W p l e (rmL 3) s m args below meth c H locs 0 0 Q (F0 m pc ls [.int x]) := by
    intro pc ls H locs x S1 hd h hP hD hS; cases h; exact RET (x_iret C hd) hP hD hS
  have B136 : ∀ (x3 : Int32) (S : MS), bfX6_setServer_136 p1 p2 x3 S = some q → ∀ (H : Heap) (locs : List Loc) (ls : Array Slot), va_P D vwCl (wM cI aM S) H → va_D A (wM cI aM S) → va_S A s.heap H locs → lv_has ls 5 [(0, .ref (aM 0)), (1, .int p1), (2, .int p2), (3, .int x3)] → W p l e (rmL 3) s m args below meth c H locs 0 0 Q (F0 m 136 ls []) := by
    intro x3 S h H locs ls hP hD hS hl
    refine x_iload_n C dX6_setServer_136 rfl hl 3 rfl ?_
    refine x_if_ne (tgt := 143) C h dX6_setServer_137 (by decide) (fun h => ?_) (fun h => ?_)
    · refine x_aload_n C dX6_setServer_143 rfl hl 0 rfl ?_
      obtain ⟨u6, hu6, h⟩ := ob_some h
      refine x_callV (As := []) (n := 0) C (kX6_begins l D cI cS aM  _ hu6) (fun hh => nomatch hh) wm_X6_41 wi_X6_begins we_X6_begins wz_X6 wc_X6_begins (by decide +kernel) rfl hP hD hS hA 0 3 rfl rfl rfl hl.1 dX6_setServer_144 rfl (Nat.le_of_ble_eq_true rfl) ⟨Nat.le_of_ble_eq_true rfl, Nat.le_of_ble_eq_true rfl⟩ ⟨Nat.zero_le _, Nat.zero_le _⟩ (fun H locs hP hD hS => ?_)
      refine x_aload_n C dX6_setServer_147 rfl hl 0 rfl ?_
      refine x_get C inX6 hP 0 rfl rfl 0 (by decide) wf_X6_7 rfl dX6_setServer_148 ?_
      refine x_sipush (v := (174 : Int32)) C dX6_setServer_151 (by decide) ?_
      refine x_iload_n C dX6_setServer_154 rfl hl 1 rfl ?_
      refine x_iadd C dX6_setServer_155 ?_
      refine x_iald C h hP 1 rfl (t0 := 0) rfl dX6_setServer_156 (fun h => ?_)
      refine x_nmi h (fun v7 h => ?_)
      refine x_istore (lv' := [(4, .int v7), (0, .ref (aM 0)), (1, .int p1), (2, .int p2), (3, .int x3)]) C dX6_setServer_157 hl (by decide) rfl (fun ls hl => ?_)
      refine x_aload_n C dX6_setServer_159 rfl hl 1 rfl ?_
      refine x_get C inX6 hP 0 rfl rfl 0 (by decide) wf_X6_7 rfl dX6_setServer_160 ?_
      refine x_sipush (v := (174 : Int32)) C dX6_setServer_163 (by decide) ?_
      refine x_iload_n C dX6_setServer_166 rfl hl 2 rfl ?_
      refine x_iadd C dX6_setServer_167 ?_
      refine x_iload_n C dX6_setServer_168 rfl hl 3 rfl ?_
      refine x_iastM (wM cI aM) C h hP hD hS 1 rfl (t0 := 0) rfl rfl dX6_setServer_169 (fun S8 h H locs hP hD hS => ?_)
      refine x_iload C dX6_setServer_170 hl 0 rfl ?_
      exact RETh dX6_setServer_172 h hP hD hS
    · refine x_bipush (v := (-2 : Int32)) C dX6_setServer_140 (by decide) ?_
      exact RETh dX6_setServer_142 h hP hD hS
  have B129 : ∀ (K82 : Int32 × Int32 × (MS) → Option (Int32 × (MS))) (ih82 : ∀ x, K82 x = some q → (match x with | (x3, x4, S) => ∀ (H : Heap) (locs : List Loc) (ls : Array Slot), va_P D vwCl (wM cI aM S) H → va_D A (wM cI aM S) → va_S A s.heap H locs → lv_has ls 5 [(0, .ref (aM 0)), (1, .int p1), (2, .int p2), (3, .int x3), (4, .int x4)] → W p l e (rmL 3) s m args below meth c H locs 0 0 Q (F0 m 82 ls []))) (x4 : Int32) (s0 : Int32) (S : MS), bfX6_setServer_129 p1 p2 K82 x4 s0 S = some q → ∀ (H : Heap) (locs : List Loc) (ls : Array Slot), va_P D vwCl (wM cI aM S) H → va_D A (wM cI aM S) → va_S A s.heap H locs → lv_has ls 5 [(0, .ref (aM 0)), (1, .int p1), (2, .int p2), (4, .int x4)] → W p l e (rmL 3) s m args below meth c H locs 0 0 Q (F0 m 129 ls [.int s0]) := by
    intro K82 ih82 x4 s0 S h H locs ls hP hD hS hl
    refine x_istore_n (lv' := [(3, .int s0), (0, .ref (aM 0)), (1, .int p1), (2, .int p2), (4, .int x4)]) C dX6_setServer_129 rfl hl (by decide) rfl (fun ls hl => ?_)
    refine x_iinc (v := (x4 + (1 : Int32))) (lv' := [(4, .int (x4 + (1 : Int32))), (3, .int s0), (0, .ref (aM 0)), (1, .int p1), (2, .int p2)]) C dX6_setServer_130 hl (k := 4) rfl rfl (by decide) rfl (fun ls hl => ?_)
    refine x_goto (tgt := 82) C dX6_setServer_133 (by decide) ?_
    exact ih82 _ h _ _ _ hP hD hS (lv_sub hl [2, 3, 4, 1, 0] rfl)
  have B128 : ∀ (K82 : Int32 × Int32 × (MS) → Option (Int32 × (MS))) (ih82 : ∀ x, K82 x = some q → (match x with | (x3, x4, S) => ∀ (H : Heap) (locs : List Loc) (ls : Array Slot), va_P D vwCl (wM cI aM S) H → va_D A (wM cI aM S) → va_S A s.heap H locs → lv_has ls 5 [(0, .ref (aM 0)), (1, .int p1), (2, .int p2), (3, .int x3), (4, .int x4)] → W p l e (rmL 3) s m args below meth c H locs 0 0 Q (F0 m 82 ls []))) (x4 : Int32) (S : MS), bfX6_setServer_128 p1 p2 K82 x4 S = some q → ∀ (H : Heap) (locs : List Loc) (ls : Array Slot), va_P D vwCl (wM cI aM S) H → va_D A (wM cI aM S) → va_S A s.heap H locs → lv_has ls 5 [(0, .ref (aM 0)), (1, .int p1), (2, .int p2), (4, .int x4)] → W p l e (rmL 3) s m args below meth c H locs 0 0 Q (F0 m 128 ls []) := by
    intro K82 ih82 x4 S h H locs ls hP hD hS hl
    refine x_iconst (v := (0 : Int32)) C dX6_setServer_128 (by decide) ?_
    exact B129 K82 ih82 _ _ _ h _ _ _ hP hD hS hl
  have B115 : ∀ (K82 : Int32 × Int32 × (MS) → Option (Int32 × (MS))) (ih82 : ∀ x, K82 x = some q → (match x with | (x3, x4, S) => ∀ (H : Heap) (locs : List Loc) (ls : Array Slot), va_P D vwCl (wM cI aM S) H → va_D A (wM cI aM S) → va_S A s.heap H locs → lv_has ls 5 [(0, .ref (aM 0)), (1, .int p1), (2, .int p2), (3, .int x3), (4, .int x4)] → W p l e (rmL 3) s m args below meth c H locs 0 0 Q (F0 m 82 ls []))) (x4 : Int32) (s1 : Int32) (S : MS), bfX6_setServer_115 p1 p2 K82 x4 s1 S = some q → ∀ (H : Heap) (locs : List Loc) (ls : Array Slot), va_P D vwCl (wM cI aM S) H → va_D A (wM cI aM S) → va_S A s.heap H locs → lv_has ls 5 [(0, .ref (aM 0)), (1, .int p1), (2, .int p2), (4, .int x4)] → W p l e (rmL 3) s m args below meth c H locs 0 0 Q (F0 m 115 ls [.int s1, .ref (aM 1)]) := by
    intro K82 ih82 x4 s1 S h H locs ls hP hD hS hl
    refine x_iload C dX6_setServer_115 hl 3 rfl ?_
    refine x_iadd C dX6_setServer_117 ?_
    refine x_iald C h hP 1 rfl (t0 := 0) rfl dX6_setServer_118 (fun h => ?_)
    refine x_bipush (v := (-9 : Int32)) C dX6_setServer_119 (by decide) ?_
    refine x_icmp_ne (tgt := 128) C h dX6_setServer_121 (by decide) (fun h => ?_) (fun h => ?_)
    · exact B128 K82 ih82 _ _ h _ _ _ hP hD hS hl
    · refine x_iconst (v := (1 : Int32)) C dX6_setServer_124 (by decide) ?_
      refine x_goto (tgt := 129) C dX6_setServer_125 (by decide) ?_
      exact B129 K82 ih82 _ _ _ h _ _ _ hP hD hS hl
  have B82 : ∀ (n : Nat) (x : Int32 × Int32 × (MS)), iter (bfX6_setServer_82 p1 p2) n x = some q → (match x with | (x3, x4, S) => ∀ (H : Heap) (locs : List Loc) (ls : Array Slot), va_P D vwCl (wM cI aM S) H → va_D A (wM cI aM S) → va_S A s.heap H locs → lv_has ls 5 [(0, .ref (aM 0)), (1, .int p1), (2, .int p2), (3, .int x3), (4, .int x4)] → W p l e (rmL 3) s m args below meth c H locs 0 0 Q (F0 m 82 ls [])) := by
    refine iter_ind (fun x : Int32 × Int32 × (MS) => (match x with | (x3, x4, S) => ∀ (H : Heap) (locs : List Loc) (ls : Array Slot), va_P D vwCl (wM cI aM S) H → va_D A (wM cI aM S) → va_S A s.heap H locs → lv_has ls 5 [(0, .ref (aM 0)), (1, .int p1), (2, .int p2), (3, .int x3), (4, .int x4)] → W p l e (rmL 3) s m args below meth c H locs 0 0 Q (F0 m 82 ls []))) ?_
    intro K82 ih82 x h
    obtain ⟨x3, x4, S⟩ := x
    intro H locs ls hP hD hS hl
    refine x_iload C dX6_setServer_82 hl 4 rfl ?_
    refine x_iconst (v := (4 : Int32)) C dX6_setServer_84 (by decide) ?_
    refine x_icmp_ge (tgt := 136) C h dX6_setServer_85 (by decide) (fun h => ?_) (fun h => ?_)
    · exact B136 _ _ h _ _ _ hP hD hS (lv_sub hl [0, 1, 2, 3] rfl)
    · refine x_iload_n C dX6_setServer_88 rfl hl 1 rfl ?_
      refine x_iconst (v := (2 : Int32)) C dX6_setServer_89 (by decide) ?_
      refine x_iremK C (by decide) dX6_setServer_90 ?_
      refine x_if_ne (tgt := 136) C h dX6_setServer_91 (by decide) (fun h => ?_) (fun h => ?_)
      · exact B136 _ _ h _ _ _ hP hD hS (lv_sub hl [0, 1, 2, 3] rfl)
      · refine x_iload_n C dX6_setServer_94 rfl hl 3 rfl ?_
        refine x_if_eq (tgt := 128) C h dX6_setServer_95 (by decide) (fun h => ?_) (fun h => ?_)
        · exact B128 K82 ih82 _ _ h _ _ _ hP hD hS (lv_sub hl [0, 1, 2, 4] rfl)
        · refine x_aload_n C dX6_setServer_98 rfl hl 0 rfl ?_
          refine x_get C inX6 hP 0 rfl rfl 0 (by decide) wf_X6_7 rfl dX6_setServer_99 ?_
          refine x_iload_n C dX6_setServer_102 rfl hl 1 rfl ?_
          refine x_if_ne (tgt := 112) C h dX6_setServer_103 (by decide) (fun h => ?_) (fun h => ?_)
          · refine x_sipush (v := (595 : Int32)) C dX6_setServer_112 (by decide) ?_
            exact B115 K82 ih82 _ _ _ h _ _ _ hP hD hS (lv_sub hl [0, 1, 2, 4] rfl)
          · refine x_sipush (v := (591 : Int32)) C dX6_setServer_106 (by decide) ?_
            refine x_goto (tgt := 115) C dX6_setServer_109 (by decide) ?_
            exact B115 K82 ih82 _ _ _ h _ _ _ hP hD hS (lv_sub hl [0, 1, 2, 4] rfl)
  have B78 : ∀ (s0 : Int32) (S : MS), bfX6_setServer_78 p1 p2 s0 S = some q → ∀ (H : Heap) (locs : List Loc) (ls : Array Slot), va_P D vwCl (wM cI aM S) H → va_D A (wM cI aM S) → va_S A s.heap H locs → lv_has ls 5 [(0, .ref (aM 0)), (1, .int p1), (2, .int p2)] → W p l e (rmL 3) s m args below meth c H locs 0 0 Q (F0 m 78 ls [.int s0]) := by
    intro s0 S h H locs ls hP hD hS hl
    refine x_istore_n (lv' := [(3, .int s0), (0, .ref (aM 0)), (1, .int p1), (2, .int p2)]) C dX6_setServer_78 rfl hl (by decide) rfl (fun ls hl => ?_)
    refine x_iload_n C dX6_setServer_79 rfl hl 3 rfl ?_
    refine x_istore (lv' := [(4, .int p2), (3, .int s0), (0, .ref (aM 0)), (1, .int p1), (2, .int p2)]) C dX6_setServer_80 hl (by decide) rfl (fun ls hl => ?_)
    exact B82 FU _ h _ _ _ hP hD hS (lv_sub hl [2, 3, 4, 1, 0] rfl)
  have B73 : ∀ (S : MS), bfX6_setServer_73 p1 p2 S = some q → ∀ (H : Heap) (locs : List Loc) (ls : Array Slot), va_P D vwCl (wM cI aM S) H → va_D A (wM cI aM S) → va_S A s.heap H locs → lv_has ls 5 [(0, .ref (aM 0)), (1, .int p1), (2, .int p2)] → W p l e (rmL 3) s m args below meth c H locs 0 0 Q (F0 m 73 ls []) := by
    intro S h H locs ls hP hD hS hl
    refine x_iconst (v := (1 : Int32)) C dX6_setServer_73 (by decide) ?_
    refine x_goto (tgt := 78) C dX6_setServer_74 (by decide) ?_
    exact B78 _ _ h _ _ _ hP hD hS hl
  have B29 : ∀ (S : MS), bfX6_setServer_29 p1 p2 S = some q → ∀ (H : Heap) (locs : List Loc) (ls : Array Slot), va_P D vwCl (wM cI aM S) H → va_D A (wM cI aM S) → va_S A s.heap H locs → lv_has ls 5 [] → W p l e (rmL 3) s m args below meth c H locs 0 0 Q (F0 m 29 ls []) := by
    intro S h H locs ls hP hD hS hl
    refine x_iconst (v := (-1 : Int32)) C dX6_setServer_29 (by decide) ?_
    exact RETh dX6_setServer_30 h hP hD hS
  have B23 : ∀ (s0 : Int32) (s1 : Int32) (s2 : Int32) (S : MS), bfX6_setServer_23 p1 p2 s0 s1 s2 S = some q → ∀ (H : Heap) (locs : List Loc) (ls : Array Slot), va_P D vwCl (wM cI aM S) H → va_D A (wM cI aM S) → va_S A s.heap H locs → lv_has ls 5 [(0, .ref (aM 0)), (1, .int p1), (2, .int p2)] → W p l e (rmL 3) s m args below meth c H locs 0 0 Q (F0 m 23 ls [.int s2, .int s1, .int s0]) := by
    intro s0 s1 s2 S h H locs ls hP hD hS hl
    obtain ⟨u9, hu9, h⟩ := ob_some h
    refine x_callS (As := [.int _, .int _, .int _]) (n := 3) C (kX6_in l D cI cS _ _ _ _ hu9) (fun hh => nomatch hh) wm_X6_33 wt_X6_in wz_X6 wc_X6_in (by decide +kernel) rfl hP hD hS hA hl.1 dX6_setServer_23 rfl (Nat.le_of_ble_eq_true rfl) ⟨Nat.le_of_ble_eq_true rfl, Nat.le_of_ble_eq_true rfl⟩ ⟨Nat.zero_le _, Nat.zero_le _⟩ (fun H locs hP hD hS => ?_)
    refine x_if_ne (tgt := 31) C h dX6_setServer_26 (by decide) (fun h => ?_) (fun h => ?_)
    · refine x_iload_n C dX6_setServer_31 rfl hl 1 rfl ?_
      refine x_iconst (v := (1 : Int32)) C dX6_setServer_32 (by decide) ?_
      refine x_icmp_ne (tgt := 56) C h dX6_setServer_33 (by decide) (fun h => ?_) (fun h => ?_)
      · refine x_iload_n C dX6_setServer_56 rfl hl 1 rfl ?_
        refine x_iconst (v := (3 : Int32)) C dX6_setServer_57 (by decide) ?_
        refine x_icmp_ne (tgt := 73) C h dX6_setServer_58 (by decide) (fun h => ?_) (fun h => ?_)
        · exact B73 _ h _ _ _ hP hD hS hl
        · refine x_aload_n C dX6_setServer_61 rfl hl 0 rfl ?_
          refine x_get C inX6 hP 0 rfl rfl 0 (by decide) wf_X6_7 rfl dX6_setServer_62 ?_
          refine x_sipush (v := (574 : Int32)) C dX6_setServer_65 (by decide) ?_
          refine x_ialdK C (by decide) hP 1 rfl (t0 := 0) rfl dX6_setServer_68 ?_
          refine x_iload_n C dX6_setServer_69 rfl hl 2 rfl ?_
          refine x_icmp_gt (tgt := 77) C h dX6_setServer_70 (by decide) (fun h => ?_) (fun h => ?_)
          · refine x_iconst (v := (0 : Int32)) C dX6_setServer_77 (by decide) ?_
            exact B78 _ _ h _ _ _ hP hD hS hl
          · exact B73 _ h _ _ _ hP hD hS hl
      · refine x_aload_n C dX6_setServer_36 rfl hl 0 rfl ?_
        refine x_get C inX6 hP 0 rfl rfl 0 (by decide) wf_X6_7 rfl dX6_setServer_37 ?_
        refine x_sipush (v := (557 : Int32)) C dX6_setServer_40 (by decide) ?_
        refine x_ialdK C (by decide) hP 1 rfl (t0 := 0) rfl dX6_setServer_43 ?_
        refine x_iload_n C dX6_setServer_44 rfl hl 2 rfl ?_
        refine x_icmp_gt (tgt := 52) C h dX6_setServer_45 (by decide) (fun h => ?_) (fun h => ?_)
        · refine x_iconst (v := (0 : Int32)) C dX6_setServer_52 (by decide) ?_
          refine x_goto (tgt := 78) C dX6_setServer_53 (by decide) ?_
          exact B78 _ _ h _ _ _ hP hD hS hl
        · refine x_iconst (v := (1 : Int32)) C dX6_setServer_48 (by decide) ?_
          refine x_goto (tgt := 78) C dX6_setServer_49 (by decide) ?_
          exact B78 _ _ h _ _ _ hP hD hS hl
    · exact B29 _ h _ _ _ hP hD hS (lv_sub hl [] rfl)
  refine x_iload_n C dX6_setServer_0 rfl hl 1 rfl ?_
  refine x_iconst (v := (0 : Int32)) C dX6_setServer_1 (by decide) ?_
  refine x_iconst (v := (3 : Int32)) C dX6_setServer_2 (by decide) ?_
  obtain ⟨u10, hu10, h⟩ := ob_some h
  refine x_callS (As := [.int _, .int _, .int _]) (n := 3) C (kX6_in l D cI cS _ _ _ _ hu10) (fun hh => nomatch hh) wm_X6_33 wt_X6_in wz_X6 wc_X6_in (by decide +kernel) rfl hP hD hS hA hl.1 dX6_setServer_3 rfl (Nat.le_of_ble_eq_true rfl) ⟨Nat.le_of_ble_eq_true rfl, Nat.le_of_ble_eq_true rfl⟩ ⟨Nat.zero_le _, Nat.zero_le _⟩ (fun H locs hP hD hS => ?_)
  refine x_if_eq (tgt := 29) C h dX6_setServer_6 (by decide) (fun h => ?_) (fun h => ?_)
  · exact B29 _ h _ _ _ hP hD hS (lv_sub hl [] rfl)
  · refine x_iload_n C dX6_setServer_9 rfl hl 2 rfl ?_
    refine x_iconst (v := (1 : Int32)) C dX6_setServer_10 (by decide) ?_
    refine x_iload_n C dX6_setServer_11 rfl hl 1 rfl ?_
    refine x_iconst (v := (2 : Int32)) C dX6_setServer_12 (by decide) ?_
    refine x_iremK C (by decide) dX6_setServer_13 ?_
    refine x_if_ne (tgt := 21) C h dX6_setServer_14 (by decide) (fun h => ?_) (fun h => ?_)
    · refine x_bipush (v := (16 : Int32)) C dX6_setServer_21 (by decide) ?_
      exact B23 _ _ _ _ h _ _ _ hP hD hS hl
    · refine x_iconst (v := (4 : Int32)) C dX6_setServer_17 (by decide) ?_
      refine x_goto (tgt := 23) C dX6_setServer_18 (by decide) ?_
      exact B23 _ _ _ _ h _ _ _ hP hD hS hl
theorem dX6_setSwitch_0 : decode cX6_setSwitch 0 = .ok (.iload_n 1, 1) := by decide +kernel
theorem dX6_setSwitch_1 : decode cX6_setSwitch 1 = .ok (.iconst 0, 1) := by decide +kernel
theorem dX6_setSwitch_2 : decode cX6_setSwitch 2 = .ok (.iconst 2, 1) := by decide +kernel
theorem dX6_setSwitch_3 : decode cX6_setSwitch 3 = .ok (.invokestatic 33, 3) := by decide +kernel
theorem dX6_setSwitch_6 : decode cX6_setSwitch 6 = .ok (.ifCond .ne 5, 3) := by decide +kernel
theorem dX6_setSwitch_9 : decode cX6_setSwitch 9 = .ok (.iconst (-1), 1) := by decide +kernel
theorem dX6_setSwitch_10 : decode cX6_setSwitch 10 = .ok (.ireturn, 1) := by decide +kernel
theorem dX6_setSwitch_11 : decode cX6_setSwitch 11 = .ok (.aload_n 0, 1) := by decide +kernel
theorem dX6_setSwitch_12 : decode cX6_setSwitch 12 = .ok (.invokevirtual 41, 3) := by decide +kernel
theorem dX6_setSwitch_15 : decode cX6_setSwitch 15 = .ok (.aload_n 0, 1) := by decide +kernel
theorem dX6_setSwitch_16 : decode cX6_setSwitch 16 = .ok (.getfield 7, 3) := by decide +kernel
theorem dX6_setSwitch_19 : decode cX6_setSwitch 19 = .ok (.sipush 179, 3) := by decide +kernel
theorem dX6_setSwitch_22 : decode cX6_setSwitch 22 = .ok (.iload_n 1, 1) := by decide +kernel
theorem dX6_setSwitch_23 : decode cX6_setSwitch 23 = .ok (.iadd, 1) := by decide +kernel
theorem dX6_setSwitch_24 : decode cX6_setSwitch 24 = .ok (.iaload, 1) := by decide +kernel
theorem dX6_setSwitch_25 : decode cX6_setSwitch 25 = .ok (.istore_n 3, 1) := by decide +kernel
theorem dX6_setSwitch_26 : decode cX6_setSwitch 26 = .ok (.aload_n 0, 1) := by decide +kernel
theorem dX6_setSwitch_27 : decode cX6_setSwitch 27 = .ok (.getfield 7, 3) := by decide +kernel
theorem dX6_setSwitch_30 : decode cX6_setSwitch 30 = .ok (.sipush 179, 3) := by decide +kernel
theorem dX6_setSwitch_33 : decode cX6_setSwitch 33 = .ok (.iload_n 1, 1) := by decide +kernel
theorem dX6_setSwitch_34 : decode cX6_setSwitch 34 = .ok (.iadd, 1) := by decide +kernel
theorem dX6_setSwitch_35 : decode cX6_setSwitch 35 = .ok (.iload_n 2, 1) := by decide +kernel
theorem dX6_setSwitch_36 : decode cX6_setSwitch 36 = .ok (.ifCond .eq 7, 3) := by decide +kernel
theorem dX6_setSwitch_39 : decode cX6_setSwitch 39 = .ok (.iconst 1, 1) := by decide +kernel
theorem dX6_setSwitch_40 : decode cX6_setSwitch 40 = .ok (.goto 4, 3) := by decide +kernel
theorem dX6_setSwitch_43 : decode cX6_setSwitch 43 = .ok (.iconst 0, 1) := by decide +kernel
theorem dX6_setSwitch_44 : decode cX6_setSwitch 44 = .ok (.iastore, 1) := by decide +kernel
theorem dX6_setSwitch_45 : decode cX6_setSwitch 45 = .ok (.iload_n 3, 1) := by decide +kernel
theorem dX6_setSwitch_46 : decode cX6_setSwitch 46 = .ok (.ireturn, 1) := by decide +kernel
def bfX6_setSwitch_44 (p1 : Int32) (p2 : Int32) (x3 : Int32) (s1 : Int32) (s2 : Int32) (S : MS) : Option (Int32 × (MS)) :=
  (if okI s1 5130 then nm (upd S.1 (s1).toNatClampNeg s2, S.2) fun S5 => some (x3, S5) else none)
def fX6_setSwitch (p1 : Int32) (p2 : Int32) (S : MS) : Option (Int32 × (MS)) :=
  ob (fX6_in p1 (0 : Int32) (2 : Int32)) fun u6 => (if u6 = 0 then some ((-1 : Int32), S) else ob (fX6_begins  S) fun u7 => (if okI ((179 : Int32) + p1) 5130 then nm ((u7.1 (((179 : Int32) + p1)).toNatClampNeg)) fun v8 => (if p2 = 0 then bfX6_setSwitch_44 p1 p2  v8 (((179 : Int32) + p1)) ((0 : Int32)) u7 else bfX6_setSwitch_44 p1 p2  v8 (((179 : Int32) + p1)) ((1 : Int32)) u7) else none))
set_option maxHeartbeats 4000000 in
set_option maxRecDepth 100000 in
theorem kX6_setSwitch (l : Launch) (D : va_G) (cI cS : ClassId) (aM : Nat → Nat) (p1 : Int32) (p2 : Int32) (S : MS) {q : Int32 × (MS)} (h : fX6_setSwitch p1 p2 S = some q) : Mc l D (tyL cI cS) false yX6_setSwitch cX6_setSwitch 4 (some .int) 3 [.ref (aM 0), .int p1, .int p2] (wM cI aM S) (some (.int q.1)) (wM cI aM q.2) := by
  refine Mc_of RX6 (by decide +kernel) rfl wc_X6_setSwitch (Nat.le_of_ble_eq_true rfl) ?_
  intro p e s m args below meth c A Q ls C hA hz hP hD hS hl RET
  have RETh : ∀ {pc : Nat} {ls : Array Slot} {H : Heap} {locs : List Loc} {x : Int32} {S1 : MS}, decode cX6_setSwitch pc = .ok (.ireturn, 1) → some (x, S1) = some q → va_P D vwCl (wM cI aM S1) H → va_D A (wM cI aM S1) → va_S A s.heap H locs → W p l e (rmL 3) s m args below meth c H locs 0 0 Q (F0 m pc ls [.int x]) := by
    intro pc ls H locs x S1 hd h hP hD hS; cases h; exact RET (x_iret C hd) hP hD hS
  have B44 : ∀ (x3 : Int32) (s1 : Int32) (s2 : Int32) (S : MS), bfX6_setSwitch_44 p1 p2 x3 s1 s2 S = some q → ∀ (H : Heap) (locs : List Loc) (ls : Array Slot), va_P D vwCl (wM cI aM S) H → va_D A (wM cI aM S) → va_S A s.heap H locs → lv_has ls 4 [(3, .int x3)] → W p l e (rmL 3) s m args below meth c H locs 0 0 Q (F0 m 44 ls [.int s2, .int s1, .ref (aM 1)]) := by
    intro x3 s1 s2 S h H locs ls hP hD hS hl
    refine x_iastM (wM cI aM) C h hP hD hS 1 rfl (t0 := 0) rfl rfl dX6_setSwitch_44 (fun S5 h H locs hP hD hS => ?_)
    refine x_iload_n C dX6_setSwitch_45 rfl hl 0 rfl ?_
    exact RETh dX6_setSwitch_46 h hP hD hS
  refine x_iload_n C dX6_setSwitch_0 rfl hl 1 rfl ?_
  refine x_iconst (v := (0 : Int32)) C dX6_setSwitch_1 (by decide) ?_
  refine x_iconst (v := (2 : Int32)) C dX6_setSwitch_2 (by decide) ?_
  obtain ⟨u6, hu6, h⟩ := ob_some h
  refine x_callS (As := [.int _, .int _, .int _]) (n := 3) C (kX6_in l D cI cS _ _ _ _ hu6) (fun hh => nomatch hh) wm_X6_33 wt_X6_in wz_X6 wc_X6_in (by decide +kernel) rfl hP hD hS hA hl.1 dX6_setSwitch_3 rfl (Nat.le_of_ble_eq_true rfl) ⟨Nat.le_of_ble_eq_true rfl, Nat.le_of_ble_eq_true rfl⟩ ⟨Nat.zero_le _, Nat.zero_le _⟩ (fun H locs hP hD hS => ?_)
  refine x_if_ne (tgt := 11) C h dX6_setSwitch_6 (by decide) (fun h => ?_) (fun h => ?_)
  · refine x_aload_n C dX6_setSwitch_11 rfl hl 0 rfl ?_
    obtain ⟨u7, hu7, h⟩ := ob_some h
    refine x_callV (As := []) (n := 0) C (kX6_begins l D cI cS aM  _ hu7) (fun hh => nomatch hh) wm_X6_41 wi_X6_begins we_X6_begins wz_X6 wc_X6_begins (by decide +kernel) rfl hP hD hS hA 0 3 rfl rfl rfl hl.1 dX6_setSwitch_12 rfl (Nat.le_of_ble_eq_true rfl) ⟨Nat.le_of_ble_eq_true rfl, Nat.le_of_ble_eq_true rfl⟩ ⟨Nat.zero_le _, Nat.zero_le _⟩ (fun H locs hP hD hS => ?_)
    refine x_aload_n C dX6_setSwitch_15 rfl hl 0 rfl ?_
    refine x_get C inX6 hP 0 rfl rfl 0 (by decide) wf_X6_7 rfl dX6_setSwitch_16 ?_
    refine x_sipush (v := (179 : Int32)) C dX6_setSwitch_19 (by decide) ?_
    refine x_iload_n C dX6_setSwitch_22 rfl hl 1 rfl ?_
    refine x_iadd C dX6_setSwitch_23 ?_
    refine x_iald C h hP 1 rfl (t0 := 0) rfl dX6_setSwitch_24 (fun h => ?_)
    refine x_nmi h (fun v8 h => ?_)
    refine x_istore_n (lv' := [(3, .int v8), (0, .ref (aM 0)), (1, .int p1), (2, .int p2)]) C dX6_setSwitch_25 rfl hl (by decide) rfl (fun ls hl => ?_)
    refine x_aload_n C dX6_setSwitch_26 rfl hl 1 rfl ?_
    refine x_get C inX6 hP 0 rfl rfl 0 (by decide) wf_X6_7 rfl dX6_setSwitch_27 ?_
    refine x_sipush (v := (179 : Int32)) C dX6_setSwitch_30 (by decide) ?_
    refine x_iload_n C dX6_setSwitch_33 rfl hl 2 rfl ?_
    refine x_iadd C dX6_setSwitch_34 ?_
    refine x_iload_n C dX6_setSwitch_35 rfl hl 3 rfl ?_
    refine x_if_eq (tgt := 43) C h dX6_setSwitch_36 (by decide) (fun h => ?_) (fun h => ?_)
    · refine x_iconst (v := (0 : Int32)) C dX6_setSwitch_43 (by decide) ?_
      exact B44 _ _ _ _ h _ _ _ hP hD hS (lv_sub hl [0] rfl)
    · refine x_iconst (v := (1 : Int32)) C dX6_setSwitch_39 (by decide) ?_
      refine x_goto (tgt := 44) C dX6_setSwitch_40 (by decide) ?_
      exact B44 _ _ _ _ h _ _ _ hP hD hS (lv_sub hl [0] rfl)
  · refine x_iconst (v := (-1 : Int32)) C dX6_setSwitch_9 (by decide) ?_
    exact RETh dX6_setSwitch_10 h hP hD hS
theorem dX6_succeededAt_0 : decode cX6_succeededAt 0 = .ok (.iload_n 1, 1) := by decide +kernel
theorem dX6_succeededAt_1 : decode cX6_succeededAt 1 = .ok (.invokestatic 37, 3) := by decide +kernel
theorem dX6_succeededAt_4 : decode cX6_succeededAt 4 = .ok (.ifCond .eq 33, 3) := by decide +kernel
theorem dX6_succeededAt_7 : decode cX6_succeededAt 7 = .ok (.iload_n 2, 1) := by decide +kernel
theorem dX6_succeededAt_8 : decode cX6_succeededAt 8 = .ok (.iconst 1, 1) := by decide +kernel
theorem dX6_succeededAt_9 : decode cX6_succeededAt 9 = .ok (.bipush 6, 2) := by decide +kernel
theorem dX6_succeededAt_11 : decode cX6_succeededAt 11 = .ok (.invokestatic 33, 3) := by decide +kernel
theorem dX6_succeededAt_14 : decode cX6_succeededAt 14 = .ok (.ifCond .eq 23, 3) := by decide +kernel
theorem dX6_succeededAt_17 : decode cX6_succeededAt 17 = .ok (.aload_n 0, 1) := by decide +kernel
theorem dX6_succeededAt_18 : decode cX6_succeededAt 18 = .ok (.getfield 7, 3) := by decide +kernel
theorem dX6_succeededAt_21 : decode cX6_succeededAt 21 = .ok (.sipush 138, 3) := by decide +kernel
theorem dX6_succeededAt_24 : decode cX6_succeededAt 24 = .ok (.bipush 6, 2) := by decide +kernel
theorem dX6_succeededAt_26 : decode cX6_succeededAt 26 = .ok (.iload_n 1, 1) := by decide +kernel
theorem dX6_succeededAt_27 : decode cX6_succeededAt 27 = .ok (.imul, 1) := by decide +kernel
theorem dX6_succeededAt_28 : decode cX6_succeededAt 28 = .ok (.iadd, 1) := by decide +kernel
theorem dX6_succeededAt_29 : decode cX6_succeededAt 29 = .ok (.iload_n 2, 1) := by decide +kernel
theorem dX6_succeededAt_30 : decode cX6_succeededAt 30 = .ok (.iadd, 1) := by decide +kernel
theorem dX6_succeededAt_31 : decode cX6_succeededAt 31 = .ok (.iconst 1, 1) := by decide +kernel
theorem dX6_succeededAt_32 : decode cX6_succeededAt 32 = .ok (.isub, 1) := by decide +kernel
theorem dX6_succeededAt_33 : decode cX6_succeededAt 33 = .ok (.iaload, 1) := by decide +kernel
theorem dX6_succeededAt_34 : decode cX6_succeededAt 34 = .ok (.goto 4, 3) := by decide +kernel
theorem dX6_succeededAt_37 : decode cX6_succeededAt 37 = .ok (.iconst (-1), 1) := by decide +kernel
theorem dX6_succeededAt_38 : decode cX6_succeededAt 38 = .ok (.ireturn, 1) := by decide +kernel
def bfX6_succeededAt_38 (p1 : Int32) (p2 : Int32) (S : MS) (s0 : Int32) : Option (Int32) :=
  some s0
def bfX6_succeededAt_37 (p1 : Int32) (p2 : Int32) (S : MS) : Option (Int32) :=
  bfX6_succeededAt_38 p1 p2 S  ((-1 : Int32))
def fX6_succeededAt (p1 : Int32) (p2 : Int32) (S : MS) : Option (Int32) :=
  ob (fX6_isClient p1) fun u3 => (if u3 = 0 then bfX6_succeededAt_37 p1 p2 S else ob (fX6_in p2 (1 : Int32) (6 : Int32)) fun u4 => (if u4 = 0 then bfX6_succeededAt_37 p1 p2 S else (if okI ((((138 : Int32) + ((6 : Int32) * p1)) + p2) - (1 : Int32)) 5130 then bfX6_succeededAt_38 p1 p2 S  ((S.1 (((((138 : Int32) + ((6 : Int32) * p1)) + p2) - (1 : Int32))).toNatClampNeg)) else none)))
set_option maxHeartbeats 4000000 in
set_option maxRecDepth 100000 in
theorem kX6_succeededAt (l : Launch) (D : va_G) (cI cS : ClassId) (aM : Nat → Nat) (p1 : Int32) (p2 : Int32) (S : MS) {q : Int32} (h : fX6_succeededAt p1 p2 S = some q) : Mc l D (tyL cI cS) false yX6_succeededAt cX6_succeededAt 3 (some .int) 3 [.ref (aM 0), .int p1, .int p2] (wM cI aM S) (some (.int q)) (wM cI aM S) := by
  refine Mc_of RX6 (by decide +kernel) rfl wc_X6_succeededAt (Nat.le_of_ble_eq_true rfl) ?_
  intro p e s m args below meth c A Q ls C hA hz hP hD hS hl RET
  have RETh : ∀ {pc : Nat} {ls : Array Slot} {H : Heap} {locs : List Loc} {x : Int32} , decode cX6_succeededAt pc = .ok (.ireturn, 1) → some x = some q → va_P D vwCl (wM cI aM S) H → va_D A (wM cI aM S) → va_S A s.heap H locs → W p l e (rmL 3) s m args below meth c H locs 0 0 Q (F0 m pc ls [.int x]) := by
    intro pc ls H locs x hd h hP hD hS; cases h; exact RET (x_iret C hd) hP hD hS
  have B38 : ∀ (s0 : Int32), bfX6_succeededAt_38 p1 p2 S s0 = some q → ∀ (H : Heap) (locs : List Loc) (ls : Array Slot), va_P D vwCl (wM cI aM S) H → va_D A (wM cI aM S) → va_S A s.heap H locs → lv_has ls 3 [] → W p l e (rmL 3) s m args below meth c H locs 0 0 Q (F0 m 38 ls [.int s0]) := by
    intro s0 h H locs ls hP hD hS hl
    exact RETh dX6_succeededAt_38 h hP hD hS
  have B37 : bfX6_succeededAt_37 p1 p2 S = some q → ∀ (H : Heap) (locs : List Loc) (ls : Array Slot), va_P D vwCl (wM cI aM S) H → va_D A (wM cI aM S) → va_S A s.heap H locs → lv_has ls 3 [] → W p l e (rmL 3) s m args below meth c H locs 0 0 Q (F0 m 37 ls []) := by
    intro  h H locs ls hP hD hS hl
    refine x_iconst (v := (-1 : Int32)) C dX6_succeededAt_37 (by decide) ?_
    exact B38 _ h _ _ _ hP hD hS hl
  refine x_iload_n C dX6_succeededAt_0 rfl hl 1 rfl ?_
  obtain ⟨u3, hu3, h⟩ := ob_some h
  refine x_callS (As := [.int _]) (n := 1) C (kX6_isClient l D cI cS _ _ hu3) (fun hh => nomatch hh) wm_X6_37 wt_X6_isClient wz_X6 wc_X6_isClient (by decide +kernel) rfl hP hD hS hA hl.1 dX6_succeededAt_1 rfl (Nat.le_of_ble_eq_true rfl) ⟨Nat.le_of_ble_eq_true rfl, Nat.le_of_ble_eq_true rfl⟩ ⟨Nat.zero_le _, Nat.zero_le _⟩ (fun H locs hP hD hS => ?_)
  refine x_if_eq (tgt := 37) C h dX6_succeededAt_4 (by decide) (fun h => ?_) (fun h => ?_)
  · exact B37  h _ _ _ hP hD hS (lv_sub hl [] rfl)
  · refine x_iload_n C dX6_succeededAt_7 rfl hl 2 rfl ?_
    refine x_iconst (v := (1 : Int32)) C dX6_succeededAt_8 (by decide) ?_
    refine x_bipush (v := (6 : Int32)) C dX6_succeededAt_9 (by decide) ?_
    obtain ⟨u4, hu4, h⟩ := ob_some h
    refine x_callS (As := [.int _, .int _, .int _]) (n := 3) C (kX6_in l D cI cS _ _ _ _ hu4) (fun hh => nomatch hh) wm_X6_33 wt_X6_in wz_X6 wc_X6_in (by decide +kernel) rfl hP hD hS hA hl.1 dX6_succeededAt_11 rfl (Nat.le_of_ble_eq_true rfl) ⟨Nat.le_of_ble_eq_true rfl, Nat.le_of_ble_eq_true rfl⟩ ⟨Nat.zero_le _, Nat.zero_le _⟩ (fun H locs hP hD hS => ?_)
    refine x_if_eq (tgt := 37) C h dX6_succeededAt_14 (by decide) (fun h => ?_) (fun h => ?_)
    · exact B37  h _ _ _ hP hD hS (lv_sub hl [] rfl)
    · refine x_aload_n C dX6_succeededAt_17 rfl hl 0 rfl ?_
      refine x_get C inX6 hP 0 rfl rfl 0 (by decide) wf_X6_7 rfl dX6_succeededAt_18 ?_
      refine x_sipush (v := (138 : Int32)) C dX6_succeededAt_21 (by decide) ?_
      refine x_bipush (v := (6 : Int32)) C dX6_succeededAt_24 (by decide) ?_
      refine x_iload_n C dX6_succeededAt_26 rfl hl 1 rfl ?_
      refine x_imul C dX6_succeededAt_27 ?_
      refine x_iadd C dX6_succeededAt_28 ?_
      refine x_iload_n C dX6_succeededAt_29 rfl hl 2 rfl ?_
      refine x_iadd C dX6_succeededAt_30 ?_
      refine x_iconst (v := (1 : Int32)) C dX6_succeededAt_31 (by decide) ?_
      refine x_isub C dX6_succeededAt_32 ?_
      refine x_iald C h hP 1 rfl (t0 := 0) rfl dX6_succeededAt_33 (fun h => ?_)
      refine x_goto (tgt := 38) C dX6_succeededAt_34 (by decide) ?_
      exact B38 _ h _ _ _ hP hD hS (lv_sub hl [] rfl)
theorem dX6_surge_0 : decode cX6_surge 0 = .ok (.iload_n 1, 1) := by decide +kernel
theorem dX6_surge_1 : decode cX6_surge 1 = .ok (.invokestatic 37, 3) := by decide +kernel
theorem dX6_surge_4 : decode cX6_surge 4 = .ok (.ifCond .eq 33, 3) := by decide +kernel
theorem dX6_surge_7 : decode cX6_surge 7 = .ok (.iload_n 2, 1) := by decide +kernel
theorem dX6_surge_8 : decode cX6_surge 8 = .ok (.iconst 1, 1) := by decide +kernel
theorem dX6_surge_9 : decode cX6_surge 9 = .ok (.iconst 4, 1) := by decide +kernel
theorem dX6_surge_10 : decode cX6_surge 10 = .ok (.invokestatic 33, 3) := by decide +kernel
theorem dX6_surge_13 : decode cX6_surge 13 = .ok (.ifCond .eq 24, 3) := by decide +kernel
theorem dX6_surge_16 : decode cX6_surge 16 = .ok (.iload_n 3, 1) := by decide +kernel
theorem dX6_surge_17 : decode cX6_surge 17 = .ok (.iconst 0, 1) := by decide +kernel
theorem dX6_surge_18 : decode cX6_surge 18 = .ok (.bipush 100, 2) := by decide +kernel
theorem dX6_surge_20 : decode cX6_surge 20 = .ok (.invokestatic 33, 3) := by decide +kernel
theorem dX6_surge_23 : decode cX6_surge 23 = .ok (.ifCond .eq 14, 3) := by decide +kernel
theorem dX6_surge_26 : decode cX6_surge 26 = .ok (.iload 4, 2) := by decide +kernel
theorem dX6_surge_28 : decode cX6_surge 28 = .ok (.iconst 1, 1) := by decide +kernel
theorem dX6_surge_29 : decode cX6_surge 29 = .ok (.bipush 100, 2) := by decide +kernel
theorem dX6_surge_31 : decode cX6_surge 31 = .ok (.invokestatic 33, 3) := by decide +kernel
theorem dX6_surge_34 : decode cX6_surge 34 = .ok (.ifCond .ne 5, 3) := by decide +kernel
theorem dX6_surge_37 : decode cX6_surge 37 = .ok (.iconst (-1), 1) := by decide +kernel
theorem dX6_surge_38 : decode cX6_surge 38 = .ok (.ireturn, 1) := by decide +kernel
theorem dX6_surge_39 : decode cX6_surge 39 = .ok (.aload_n 0, 1) := by decide +kernel
theorem dX6_surge_40 : decode cX6_surge 40 = .ok (.invokevirtual 41, 3) := by decide +kernel
theorem dX6_surge_43 : decode cX6_surge 43 = .ok (.aload_n 0, 1) := by decide +kernel
theorem dX6_surge_44 : decode cX6_surge 44 = .ok (.getfield 7, 3) := by decide +kernel
theorem dX6_surge_47 : decode cX6_surge 47 = .ok (.bipush 72, 2) := by decide +kernel
theorem dX6_surge_49 : decode cX6_surge 49 = .ok (.iconst 3, 1) := by decide +kernel
theorem dX6_surge_50 : decode cX6_surge 50 = .ok (.iload_n 1, 1) := by decide +kernel
theorem dX6_surge_51 : decode cX6_surge 51 = .ok (.imul, 1) := by decide +kernel
theorem dX6_surge_52 : decode cX6_surge 52 = .ok (.iadd, 1) := by decide +kernel
theorem dX6_surge_53 : decode cX6_surge 53 = .ok (.iload_n 2, 1) := by decide +kernel
theorem dX6_surge_54 : decode cX6_surge 54 = .ok (.iastore, 1) := by decide +kernel
theorem dX6_surge_55 : decode cX6_surge 55 = .ok (.aload_n 0, 1) := by decide +kernel
theorem dX6_surge_56 : decode cX6_surge 56 = .ok (.getfield 7, 3) := by decide +kernel
theorem dX6_surge_59 : decode cX6_surge 59 = .ok (.bipush 72, 2) := by decide +kernel
theorem dX6_surge_61 : decode cX6_surge 61 = .ok (.iconst 3, 1) := by decide +kernel
theorem dX6_surge_62 : decode cX6_surge 62 = .ok (.iload_n 1, 1) := by decide +kernel
theorem dX6_surge_63 : decode cX6_surge 63 = .ok (.imul, 1) := by decide +kernel
theorem dX6_surge_64 : decode cX6_surge 64 = .ok (.iadd, 1) := by decide +kernel
theorem dX6_surge_65 : decode cX6_surge 65 = .ok (.iconst 1, 1) := by decide +kernel
theorem dX6_surge_66 : decode cX6_surge 66 = .ok (.iadd, 1) := by decide +kernel
theorem dX6_surge_67 : decode cX6_surge 67 = .ok (.aload_n 0, 1) := by decide +kernel
theorem dX6_surge_68 : decode cX6_surge 68 = .ok (.getfield 7, 3) := by decide +kernel
theorem dX6_surge_71 : decode cX6_surge 71 = .ok (.sipush 182, 3) := by decide +kernel
theorem dX6_surge_74 : decode cX6_surge 74 = .ok (.iaload, 1) := by decide +kernel
theorem dX6_surge_75 : decode cX6_surge 75 = .ok (.iload_n 3, 1) := by decide +kernel
theorem dX6_surge_76 : decode cX6_surge 76 = .ok (.iadd, 1) := by decide +kernel
theorem dX6_surge_77 : decode cX6_surge 77 = .ok (.iastore, 1) := by decide +kernel
theorem dX6_surge_78 : decode cX6_surge 78 = .ok (.aload_n 0, 1) := by decide +kernel
theorem dX6_surge_79 : decode cX6_surge 79 = .ok (.getfield 7, 3) := by decide +kernel
theorem dX6_surge_82 : decode cX6_surge 82 = .ok (.bipush 72, 2) := by decide +kernel
theorem dX6_surge_84 : decode cX6_surge 84 = .ok (.iconst 3, 1) := by decide +kernel
theorem dX6_surge_85 : decode cX6_surge 85 = .ok (.iload_n 1, 1) := by decide +kernel
theorem dX6_surge_86 : decode cX6_surge 86 = .ok (.imul, 1) := by decide +kernel
theorem dX6_surge_87 : decode cX6_surge 87 = .ok (.iadd, 1) := by decide +kernel
theorem dX6_surge_88 : decode cX6_surge 88 = .ok (.iconst 2, 1) := by decide +kernel
theorem dX6_surge_89 : decode cX6_surge 89 = .ok (.iadd, 1) := by decide +kernel
theorem dX6_surge_90 : decode cX6_surge 90 = .ok (.aload_n 0, 1) := by decide +kernel
theorem dX6_surge_91 : decode cX6_surge 91 = .ok (.getfield 7, 3) := by decide +kernel
theorem dX6_surge_94 : decode cX6_surge 94 = .ok (.sipush 182, 3) := by decide +kernel
theorem dX6_surge_97 : decode cX6_surge 97 = .ok (.iaload, 1) := by decide +kernel
theorem dX6_surge_98 : decode cX6_surge 98 = .ok (.iload_n 3, 1) := by decide +kernel
theorem dX6_surge_99 : decode cX6_surge 99 = .ok (.iadd, 1) := by decide +kernel
theorem dX6_surge_100 : decode cX6_surge 100 = .ok (.iload 4, 2) := by decide +kernel
theorem dX6_surge_102 : decode cX6_surge 102 = .ok (.iadd, 1) := by decide +kernel
theorem dX6_surge_103 : decode cX6_surge 103 = .ok (.iastore, 1) := by decide +kernel
theorem dX6_surge_104 : decode cX6_surge 104 = .ok (.aload_n 0, 1) := by decide +kernel
theorem dX6_surge_105 : decode cX6_surge 105 = .ok (.getfield 7, 3) := by decide +kernel
theorem dX6_surge_108 : decode cX6_surge 108 = .ok (.bipush 72, 2) := by decide +kernel
theorem dX6_surge_110 : decode cX6_surge 110 = .ok (.iconst 3, 1) := by decide +kernel
theorem dX6_surge_111 : decode cX6_surge 111 = .ok (.iload_n 1, 1) := by decide +kernel
theorem dX6_surge_112 : decode cX6_surge 112 = .ok (.imul, 1) := by decide +kernel
theorem dX6_surge_113 : decode cX6_surge 113 = .ok (.iadd, 1) := by decide +kernel
theorem dX6_surge_114 : decode cX6_surge 114 = .ok (.iconst 2, 1) := by decide +kernel
theorem dX6_surge_115 : decode cX6_surge 115 = .ok (.iadd, 1) := by decide +kernel
theorem dX6_surge_116 : decode cX6_surge 116 = .ok (.iaload, 1) := by decide +kernel
theorem dX6_surge_117 : decode cX6_surge 117 = .ok (.ireturn, 1) := by decide +kernel
def bfX6_surge_37 (p1 : Int32) (p2 : Int32) (p3 : Int32) (p4 : Int32) (S : MS) : Option (Int32 × (MS)) :=
  some ((-1 : Int32), S)
def fX6_surge (p1 : Int32) (p2 : Int32) (p3 : Int32) (p4 : Int32) (S : MS) : Option (Int32 × (MS)) :=
  ob (fX6_isClient p1) fun u9 => (if u9 = 0 then bfX6_surge_37 p1 p2 p3 p4  S else ob (fX6_in p2 (1 : Int32) (4 : Int32)) fun u10 => (if u10 = 0 then bfX6_surge_37 p1 p2 p3 p4  S else ob (fX6_in p3 (0 : Int32) (100 : Int32)) fun u11 => (if u11 = 0 then bfX6_surge_37 p1 p2 p3 p4  S else ob (fX6_in p4 (1 : Int32) (100 : Int32)) fun u12 => (if u12 = 0 then bfX6_surge_37 p1 p2 p3 p4  S else ob (fX6_begins  S) fun u13 => (if okI ((72 : Int32) + ((3 : Int32) * p1)) 5130 then nm (upd u13.1 (((72 : Int32) + ((3 : Int32) * p1))).toNatClampNeg p2, u13.2) fun S14 => (if okI (((72 : Int32) + ((3 : Int32) * p1)) + (1 : Int32)) 5130 then nm (upd S14.1 ((((72 : Int32) + ((3 : Int32) * p1)) + (1 : Int32))).toNatClampNeg ((S14.1 ((182 : Int32)).toNatClampNeg) + p3), S14.2) fun S15 => (if okI (((72 : Int32) + ((3 : Int32) * p1)) + (2 : Int32)) 5130 then nm (upd S15.1 ((((72 : Int32) + ((3 : Int32) * p1)) + (2 : Int32))).toNatClampNeg (((S15.1 ((182 : Int32)).toNatClampNeg) + p3) + p4), S15.2) fun S16 => (if okI (((72 : Int32) + ((3 : Int32) * p1)) + (2 : Int32)) 5130 then some ((S16.1 ((((72 : Int32) + ((3 : Int32) * p1)) + (2 : Int32))).toNatClampNeg), S16) else none) else none) else none) else none)))))
set_option maxHeartbeats 4000000 in
set_option maxRecDepth 100000 in
theorem kX6_surge (l : Launch) (D : va_G) (cI cS : ClassId) (aM : Nat → Nat) (p1 : Int32) (p2 : Int32) (p3 : Int32) (p4 : Int32) (S : MS) {q : Int32 × (MS)} (h : fX6_surge p1 p2 p3 p4 S = some q) : Mc l D (tyL cI cS) false yX6_surge cX6_surge 5 (some .int) 3 [.ref (aM 0), .int p1, .int p2, .int p3, .int p4] (wM cI aM S) (some (.int q.1)) (wM cI aM q.2) := by
  refine Mc_of RX6 (by decide +kernel) rfl wc_X6_surge (Nat.le_of_ble_eq_true rfl) ?_
  intro p e s m args below meth c A Q ls C hA hz hP hD hS hl RET
  have RETh : ∀ {pc : Nat} {ls : Array Slot} {H : Heap} {locs : List Loc} {x : Int32} {S1 : MS}, decode cX6_surge pc = .ok (.ireturn, 1) → some (x, S1) = some q → va_P D vwCl (wM cI aM S1) H → va_D A (wM cI aM S1) → va_S A s.heap H locs → W p l e (rmL 3) s m args below meth c H locs 0 0 Q (F0 m pc ls [.int x]) := by
    intro pc ls H locs x S1 hd h hP hD hS; cases h; exact RET (x_iret C hd) hP hD hS
  have B37 : ∀ (S : MS), bfX6_surge_37 p1 p2 p3 p4 S = some q → ∀ (H : Heap) (locs : List Loc) (ls : Array Slot), va_P D vwCl (wM cI aM S) H → va_D A (wM cI aM S) → va_S A s.heap H locs → lv_has ls 5 [] → W p l e (rmL 3) s m args below meth c H locs 0 0 Q (F0 m 37 ls []) := by
    intro S h H locs ls hP hD hS hl
    refine x_iconst (v := (-1 : Int32)) C dX6_surge_37 (by decide) ?_
    exact RETh dX6_surge_38 h hP hD hS
  refine x_iload_n C dX6_surge_0 rfl hl 1 rfl ?_
  obtain ⟨u9, hu9, h⟩ := ob_some h
  refine x_callS (As := [.int _]) (n := 1) C (kX6_isClient l D cI cS _ _ hu9) (fun hh => nomatch hh) wm_X6_37 wt_X6_isClient wz_X6 wc_X6_isClient (by decide +kernel) rfl hP hD hS hA hl.1 dX6_surge_1 rfl (Nat.le_of_ble_eq_true rfl) ⟨Nat.le_of_ble_eq_true rfl, Nat.le_of_ble_eq_true rfl⟩ ⟨Nat.zero_le _, Nat.zero_le _⟩ (fun H locs hP hD hS => ?_)
  refine x_if_eq (tgt := 37) C h dX6_surge_4 (by decide) (fun h => ?_) (fun h => ?_)
  · exact B37 _ h _ _ _ hP hD hS (lv_sub hl [] rfl)
  · refine x_iload_n C dX6_surge_7 rfl hl 2 rfl ?_
    refine x_iconst (v := (1 : Int32)) C dX6_surge_8 (by decide) ?_
    refine x_iconst (v := (4 : Int32)) C dX6_surge_9 (by decide) ?_
    obtain ⟨u10, hu10, h⟩ := ob_some h
    refine x_callS (As := [.int _, .int _, .int _]) (n := 3) C (kX6_in l D cI cS _ _ _ _ hu10) (fun hh => nomatch hh) wm_X6_33 wt_X6_in wz_X6 wc_X6_in (by decide +kernel) rfl hP hD hS hA hl.1 dX6_surge_10 rfl (Nat.le_of_ble_eq_true rfl) ⟨Nat.le_of_ble_eq_true rfl, Nat.le_of_ble_eq_true rfl⟩ ⟨Nat.zero_le _, Nat.zero_le _⟩ (fun H locs hP hD hS => ?_)
    refine x_if_eq (tgt := 37) C h dX6_surge_13 (by decide) (fun h => ?_) (fun h => ?_)
    · exact B37 _ h _ _ _ hP hD hS (lv_sub hl [] rfl)
    · refine x_iload_n C dX6_surge_16 rfl hl 3 rfl ?_
      refine x_iconst (v := (0 : Int32)) C dX6_surge_17 (by decide) ?_
      refine x_bipush (v := (100 : Int32)) C dX6_surge_18 (by decide) ?_
      obtain ⟨u11, hu11, h⟩ := ob_some h
      refine x_callS (As := [.int _, .int _, .int _]) (n := 3) C (kX6_in l D cI cS _ _ _ _ hu11) (fun hh => nomatch hh) wm_X6_33 wt_X6_in wz_X6 wc_X6_in (by decide +kernel) rfl hP hD hS hA hl.1 dX6_surge_20 rfl (Nat.le_of_ble_eq_true rfl) ⟨Nat.le_of_ble_eq_true rfl, Nat.le_of_ble_eq_true rfl⟩ ⟨Nat.zero_le _, Nat.zero_le _⟩ (fun H locs hP hD hS => ?_)
      refine x_if_eq (tgt := 37) C h dX6_surge_23 (by decide) (fun h => ?_) (fun h => ?_)
      · exact B37 _ h _ _ _ hP hD hS (lv_sub hl [] rfl)
      · refine x_iload C dX6_surge_26 hl 4 rfl ?_
        refine x_iconst (v := (1 : Int32)) C dX6_surge_28 (by decide) ?_
        refine x_bipush (v := (100 : Int32)) C dX6_surge_29 (by decide) ?_
        obtain ⟨u12, hu12, h⟩ := ob_some h
        refine x_callS (As := [.int _, .int _, .int _]) (n := 3) C (kX6_in l D cI cS _ _ _ _ hu12) (fun hh => nomatch hh) wm_X6_33 wt_X6_in wz_X6 wc_X6_in (by decide +kernel) rfl hP hD hS hA hl.1 dX6_surge_31 rfl (Nat.le_of_ble_eq_true rfl) ⟨Nat.le_of_ble_eq_true rfl, Nat.le_of_ble_eq_true rfl⟩ ⟨Nat.zero_le _, Nat.zero_le _⟩ (fun H locs hP hD hS => ?_)
        refine x_if_ne (tgt := 39) C h dX6_surge_34 (by decide) (fun h => ?_) (fun h => ?_)
        · refine x_aload_n C dX6_surge_39 rfl hl 0 rfl ?_
          obtain ⟨u13, hu13, h⟩ := ob_some h
          refine x_callV (As := []) (n := 0) C (kX6_begins l D cI cS aM  _ hu13) (fun hh => nomatch hh) wm_X6_41 wi_X6_begins we_X6_begins wz_X6 wc_X6_begins (by decide +kernel) rfl hP hD hS hA 0 3 rfl rfl rfl hl.1 dX6_surge_40 rfl (Nat.le_of_ble_eq_true rfl) ⟨Nat.le_of_ble_eq_true rfl, Nat.le_of_ble_eq_true rfl⟩ ⟨Nat.zero_le _, Nat.zero_le _⟩ (fun H locs hP hD hS => ?_)
          refine x_aload_n C dX6_surge_43 rfl hl 0 rfl ?_
          refine x_get C inX6 hP 0 rfl rfl 0 (by decide) wf_X6_7 rfl dX6_surge_44 ?_
          refine x_bipush (v := (72 : Int32)) C dX6_surge_47 (by decide) ?_
          refine x_iconst (v := (3 : Int32)) C dX6_surge_49 (by decide) ?_
          refine x_iload_n C dX6_surge_50 rfl hl 1 rfl ?_
          refine x_imul C dX6_surge_51 ?_
          refine x_iadd C dX6_surge_52 ?_
          refine x_iload_n C dX6_surge_53 rfl hl 2 rfl ?_
          refine x_iastM (wM cI aM) C h hP hD hS 1 rfl (t0 := 0) rfl rfl dX6_surge_54 (fun S14 h H locs hP hD hS => ?_)
          refine x_aload_n C dX6_surge_55 rfl hl 0 rfl ?_
          refine x_get C inX6 hP 0 rfl rfl 0 (by decide) wf_X6_7 rfl dX6_surge_56 ?_
          refine x_bipush (v := (72 : Int32)) C dX6_surge_59 (by decide) ?_
          refine x_iconst (v := (3 : Int32)) C dX6_surge_61 (by decide) ?_
          refine x_iload_n C dX6_surge_62 rfl hl 1 rfl ?_
          refine x_imul C dX6_surge_63 ?_
          refine x_iadd C dX6_surge_64 ?_
          refine x_iconst (v := (1 : Int32)) C dX6_surge_65 (by decide) ?_
          refine x_iadd C dX6_surge_66 ?_
          refine x_aload_n C dX6_surge_67 rfl hl 0 rfl ?_
          refine x_get C inX6 hP 0 rfl rfl 0 (by decide) wf_X6_7 rfl dX6_surge_68 ?_
          refine x_sipush (v := (182 : Int32)) C dX6_surge_71 (by decide) ?_
          refine x_ialdK C (by decide) hP 1 rfl (t0 := 0) rfl dX6_surge_74 ?_
          refine x_iload_n C dX6_surge_75 rfl hl 3 rfl ?_
          refine x_iadd C dX6_surge_76 ?_
          refine x_iastM (wM cI aM) C h hP hD hS 1 rfl (t0 := 0) rfl rfl dX6_surge_77 (fun S15 h H locs hP hD hS => ?_)
          refine x_aload_n C dX6_surge_78 rfl hl 0 rfl ?_
          refine x_get C inX6 hP 0 rfl rfl 0 (by decide) wf_X6_7 rfl dX6_surge_79 ?_
          refine x_bipush (v := (72 : Int32)) C dX6_surge_82 (by decide) ?_
          refine x_iconst (v := (3 : Int32)) C dX6_surge_84 (by decide) ?_
          refine x_iload_n C dX6_surge_85 rfl hl 1 rfl ?_
          refine x_imul C dX6_surge_86 ?_
          refine x_iadd C dX6_surge_87 ?_
          refine x_iconst (v := (2 : Int32)) C dX6_surge_88 (by decide) ?_
          refine x_iadd C dX6_surge_89 ?_
          refine x_aload_n C dX6_surge_90 rfl hl 0 rfl ?_
          refine x_get C inX6 hP 0 rfl rfl 0 (by decide) wf_X6_7 rfl dX6_surge_91 ?_
          refine x_sipush (v := (182 : Int32)) C dX6_surge_94 (by decide) ?_
          refine x_ialdK C (by decide) hP 1 rfl (t0 := 0) rfl dX6_surge_97 ?_
          refine x_iload_n C dX6_surge_98 rfl hl 3 rfl ?_
          refine x_iadd C dX6_surge_99 ?_
          refine x_iload C dX6_surge_100 hl 4 rfl ?_
          refine x_iadd C dX6_surge_102 ?_
          refine x_iastM (wM cI aM) C h hP hD hS 1 rfl (t0 := 0) rfl rfl dX6_surge_103 (fun S16 h H locs hP hD hS => ?_)
          refine x_aload_n C dX6_surge_104 rfl hl 0 rfl ?_
          refine x_get C inX6 hP 0 rfl rfl 0 (by decide) wf_X6_7 rfl dX6_surge_105 ?_
          refine x_bipush (v := (72 : Int32)) C dX6_surge_108 (by decide) ?_
          refine x_iconst (v := (3 : Int32)) C dX6_surge_110 (by decide) ?_
          refine x_iload_n C dX6_surge_111 rfl hl 1 rfl ?_
          refine x_imul C dX6_surge_112 ?_
          refine x_iadd C dX6_surge_113 ?_
          refine x_iconst (v := (2 : Int32)) C dX6_surge_114 (by decide) ?_
          refine x_iadd C dX6_surge_115 ?_
          refine x_iald C h hP 1 rfl (t0 := 0) rfl dX6_surge_116 (fun h => ?_)
          exact RETh dX6_surge_117 h hP hD hS
        · exact B37 _ h _ _ _ hP hD hS (lv_sub hl [] rfl)
theorem dX6_undo_0 : decode cX6_undo 0 = .ok (.aload_n 0, 1) := by decide +kernel
theorem dX6_undo_1 : decode cX6_undo 1 = .ok (.getfield 25, 3) := by decide +kernel
theorem dX6_undo_4 : decode cX6_undo 4 = .ok (.ifCond .ne 6, 3) := by decide +kernel
theorem dX6_undo_7 : decode cX6_undo 7 = .ok (.bipush (-2), 2) := by decide +kernel
theorem dX6_undo_9 : decode cX6_undo 9 = .ok (.ireturn, 1) := by decide +kernel
theorem dX6_undo_10 : decode cX6_undo 10 = .ok (.aload_n 0, 1) := by decide +kernel
theorem dX6_undo_11 : decode cX6_undo 11 = .ok (.aload_n 0, 1) := by decide +kernel
theorem dX6_undo_12 : decode cX6_undo 12 = .ok (.getfield 25, 3) := by decide +kernel
theorem dX6_undo_15 : decode cX6_undo 15 = .ok (.iconst 0, 1) := by decide +kernel
theorem dX6_undo_16 : decode cX6_undo 16 = .ok (.invokevirtual 29, 3) := by decide +kernel
theorem dX6_undo_19 : decode cX6_undo 19 = .ok (.aload_n 0, 1) := by decide +kernel
theorem dX6_undo_20 : decode cX6_undo 20 = .ok (.dup, 1) := by decide +kernel
theorem dX6_undo_21 : decode cX6_undo 21 = .ok (.getfield 25, 3) := by decide +kernel
theorem dX6_undo_24 : decode cX6_undo 24 = .ok (.iconst 1, 1) := by decide +kernel
theorem dX6_undo_25 : decode cX6_undo 25 = .ok (.isub, 1) := by decide +kernel
theorem dX6_undo_26 : decode cX6_undo 26 = .ok (.putfield 25, 3) := by decide +kernel
theorem dX6_undo_29 : decode cX6_undo 29 = .ok (.aload_n 0, 1) := by decide +kernel
theorem dX6_undo_30 : decode cX6_undo 30 = .ok (.getfield 25, 3) := by decide +kernel
theorem dX6_undo_33 : decode cX6_undo 33 = .ok (.ireturn, 1) := by decide +kernel
def fX6_undo  (S : MS) : Option (Int32 × (MS)) :=
  (if (S.2.2 1) = 0 then some ((-2 : Int32), S) else ob (fX6_copies (S.2.2 1) (0 : Int32) S) fun u3 => nm (u3.1, u3.2.1, upd u3.2.2 1 ((u3.2.2 1) - (1 : Int32))) fun S4 => some ((S4.2.2 1), S4))
set_option maxHeartbeats 4000000 in
set_option maxRecDepth 100000 in
theorem kX6_undo (l : Launch) (D : va_G) (cI cS : ClassId) (aM : Nat → Nat)  (S : MS) {q : Int32 × (MS)} (h : fX6_undo  S = some q) : Mc l D (tyL cI cS) false yX6_undo cX6_undo 1 (some .int) 2 [.ref (aM 0)] (wM cI aM S) (some (.int q.1)) (wM cI aM q.2) := by
  refine Mc_of RX6 (by decide +kernel) rfl wc_X6_undo (Nat.le_of_ble_eq_true rfl) ?_
  intro p e s m args below meth c A Q ls C hA hz hP hD hS hl RET
  have RETh : ∀ {pc : Nat} {ls : Array Slot} {H : Heap} {locs : List Loc} {x : Int32} {S1 : MS}, decode cX6_undo pc = .ok (.ireturn, 1) → some (x, S1) = some q → va_P D vwCl (wM cI aM S1) H → va_D A (wM cI aM S1) → va_S A s.heap H locs → W p l e (rmL 2) s m args below meth c H locs 0 0 Q (F0 m pc ls [.int x]) := by
    intro pc ls H locs x S1 hd h hP hD hS; cases h; exact RET (x_iret C hd) hP hD hS
  refine x_aload_n C dX6_undo_0 rfl hl 0 rfl ?_
  refine x_get C inX6 hP 0 rfl rfl 1 (by decide) wf_X6_25 rfl dX6_undo_1 ?_
  refine x_if_ne (tgt := 10) C h dX6_undo_4 (by decide) (fun h => ?_) (fun h => ?_)
  · refine x_aload_n C dX6_undo_10 rfl hl 0 rfl ?_
    refine x_aload_n C dX6_undo_11 rfl hl 0 rfl ?_
    refine x_get C inX6 hP 0 rfl rfl 1 (by decide) wf_X6_25 rfl dX6_undo_12 ?_
    refine x_iconst (v := (0 : Int32)) C dX6_undo_15 (by decide) ?_
    obtain ⟨u3, hu3, h⟩ := ob_some h
    refine x_callV (As := [.int _, .int _]) (n := 2) C (kX6_copies l D cI cS aM _ _ _ hu3) (fun hh => nomatch hh) wm_X6_29 wi_X6_copies we_X6_copies wz_X6 wc_X6_copies (by decide +kernel) rfl hP hD hS hA 0 3 rfl rfl rfl hl.1 dX6_undo_16 rfl (Nat.le_of_ble_eq_true rfl) ⟨Nat.le_of_ble_eq_true rfl, Nat.le_of_ble_eq_true rfl⟩ ⟨Nat.zero_le _, Nat.zero_le _⟩ (fun H locs hP hD hS => ?_)
    refine x_aload_n C dX6_undo_19 rfl hl 0 rfl ?_
    refine x_dup C dX6_undo_20 rfl ?_
    refine x_get C inX6 hP 0 rfl rfl 1 (by decide) wf_X6_25 rfl dX6_undo_21 ?_
    refine x_iconst (v := (1 : Int32)) C dX6_undo_24 (by decide) ?_
    refine x_isub C dX6_undo_25 ?_
    refine x_putM (wM cI aM) C h inX6 tyX6 tyX6_ok nmX6 hP hD hS 0 rfl rfl 1 (by decide) wf_X6_25 rfl (ft := .int) (by decide +kernel) rfl rfl (Nat.le_of_ble_eq_true rfl) rfl dX6_undo_26 (fun S4 h H locs hP hD hS => ?_)
    refine x_aload_n C dX6_undo_29 rfl hl 0 rfl ?_
    refine x_get C inX6 hP 0 rfl rfl 1 (by decide) wf_X6_25 rfl dX6_undo_30 ?_
    exact RETh dX6_undo_33 h hP hD hS
  · refine x_bipush (v := (-2 : Int32)) C dX6_undo_7 (by decide) ?_
    exact RETh dX6_undo_9 h hP hD hS
theorem dX6_window_0 : decode cX6_window 0 = .ok (.iload_n 1, 1) := by decide +kernel
theorem dX6_window_1 : decode cX6_window 1 = .ok (.iconst 0, 1) := by decide +kernel
theorem dX6_window_2 : decode cX6_window 2 = .ok (.iconst 3, 1) := by decide +kernel
theorem dX6_window_3 : decode cX6_window 3 = .ok (.invokestatic 33, 3) := by decide +kernel
theorem dX6_window_6 : decode cX6_window 6 = .ok (.ifCond .eq 13, 3) := by decide +kernel
theorem dX6_window_9 : decode cX6_window 9 = .ok (.iload_n 2, 1) := by decide +kernel
theorem dX6_window_10 : decode cX6_window 10 = .ok (.iconst 1, 1) := by decide +kernel
theorem dX6_window_11 : decode cX6_window 11 = .ok (.bipush 64, 2) := by decide +kernel
theorem dX6_window_13 : decode cX6_window 13 = .ok (.invokestatic 33, 3) := by decide +kernel
theorem dX6_window_16 : decode cX6_window 16 = .ok (.ifCond .ne 5, 3) := by decide +kernel
theorem dX6_window_19 : decode cX6_window 19 = .ok (.iconst (-1), 1) := by decide +kernel
theorem dX6_window_20 : decode cX6_window 20 = .ok (.ireturn, 1) := by decide +kernel
theorem dX6_window_21 : decode cX6_window 21 = .ok (.aload_n 0, 1) := by decide +kernel
theorem dX6_window_22 : decode cX6_window 22 = .ok (.getfield 7, 3) := by decide +kernel
theorem dX6_window_25 : decode cX6_window 25 = .ok (.sipush 182, 3) := by decide +kernel
theorem dX6_window_28 : decode cX6_window 28 = .ok (.iaload, 1) := by decide +kernel
theorem dX6_window_29 : decode cX6_window 29 = .ok (.iload_n 2, 1) := by decide +kernel
theorem dX6_window_30 : decode cX6_window 30 = .ok (.if_icmp .ge 6, 3) := by decide +kernel
theorem dX6_window_33 : decode cX6_window 33 = .ok (.bipush (-2), 2) := by decide +kernel
theorem dX6_window_35 : decode cX6_window 35 = .ok (.ireturn, 1) := by decide +kernel
theorem dX6_window_36 : decode cX6_window 36 = .ok (.iconst 0, 1) := by decide +kernel
theorem dX6_window_37 : decode cX6_window 37 = .ok (.istore_n 3, 1) := by decide +kernel
theorem dX6_window_38 : decode cX6_window 38 = .ok (.aload_n 0, 1) := by decide +kernel
theorem dX6_window_39 : decode cX6_window 39 = .ok (.getfield 7, 3) := by decide +kernel
theorem dX6_window_42 : decode cX6_window 42 = .ok (.sipush 182, 3) := by decide +kernel
theorem dX6_window_45 : decode cX6_window 45 = .ok (.iaload, 1) := by decide +kernel
theorem dX6_window_46 : decode cX6_window 46 = .ok (.iload_n 2, 1) := by decide +kernel
theorem dX6_window_47 : decode cX6_window 47 = .ok (.isub, 1) := by decide +kernel
theorem dX6_window_48 : decode cX6_window 48 = .ok (.istore 4, 2) := by decide +kernel
theorem dX6_window_50 : decode cX6_window 50 = .ok (.iload 4, 2) := by decide +kernel
theorem dX6_window_52 : decode cX6_window 52 = .ok (.aload_n 0, 1) := by decide +kernel
theorem dX6_window_53 : decode cX6_window 53 = .ok (.getfield 7, 3) := by decide +kernel
theorem dX6_window_56 : decode cX6_window 56 = .ok (.sipush 182, 3) := by decide +kernel
theorem dX6_window_59 : decode cX6_window 59 = .ok (.iaload, 1) := by decide +kernel
theorem dX6_window_60 : decode cX6_window 60 = .ok (.if_icmp .ge 19, 3) := by decide +kernel
theorem dX6_window_63 : decode cX6_window 63 = .ok (.iload_n 3, 1) := by decide +kernel
theorem dX6_window_64 : decode cX6_window 64 = .ok (.aload_n 0, 1) := by decide +kernel
theorem dX6_window_65 : decode cX6_window 65 = .ok (.iload 4, 2) := by decide +kernel
theorem dX6_window_67 : decode cX6_window 67 = .ok (.iload_n 1, 1) := by decide +kernel
theorem dX6_window_68 : decode cX6_window 68 = .ok (.invokevirtual 181, 3) := by decide +kernel
theorem dX6_window_71 : decode cX6_window 71 = .ok (.iadd, 1) := by decide +kernel
theorem dX6_window_72 : decode cX6_window 72 = .ok (.istore_n 3, 1) := by decide +kernel
theorem dX6_window_73 : decode cX6_window 73 = .ok (.iinc 4 1, 3) := by decide +kernel
theorem dX6_window_76 : decode cX6_window 76 = .ok (.goto (-26), 3) := by decide +kernel
theorem dX6_window_79 : decode cX6_window 79 = .ok (.iload_n 3, 1) := by decide +kernel
theorem dX6_window_80 : decode cX6_window 80 = .ok (.ireturn, 1) := by decide +kernel
def bfX6_window_50 (p1 : Int32) (p2 : Int32) (S : MS) (K50 : Int32 × Int32 → Option (Int32)) (x : Int32 × Int32) : Option (Int32) :=
  match x with
  | (x3, x4) => (if (S.1 ((182 : Int32)).toNatClampNeg) ≤ x4 then some x3 else ob (fX6_past x4 p1 S) fun u6 => nm ((x3 + u6)) fun v7 => K50 (v7, (x4 + (1 : Int32))))
def bfX6_window_19 (p1 : Int32) (p2 : Int32) (S : MS) : Option (Int32) :=
  some (-1 : Int32)
def fX6_window (p1 : Int32) (p2 : Int32) (S : MS) : Option (Int32) :=
  ob (fX6_in p1 (0 : Int32) (3 : Int32)) fun u8 => (if u8 = 0 then bfX6_window_19 p1 p2 S else ob (fX6_in p2 (1 : Int32) (64 : Int32)) fun u9 => (if u9 = 0 then bfX6_window_19 p1 p2 S else (if p2 ≤ (S.1 ((182 : Int32)).toNatClampNeg) then nm (((S.1 ((182 : Int32)).toNatClampNeg) - p2)) fun v10 => iter (bfX6_window_50 p1 p2 S) FU ((0 : Int32), v10) else some (-2 : Int32))))
set_option maxHeartbeats 4000000 in
set_option maxRecDepth 100000 in
theorem kX6_window (l : Launch) (D : va_G) (cI cS : ClassId) (aM : Nat → Nat) (p1 : Int32) (p2 : Int32) (S : MS) {q : Int32} (h : fX6_window p1 p2 S = some q) : Mc l D (tyL cI cS) false yX6_window cX6_window 5 (some .int) 2 [.ref (aM 0), .int p1, .int p2] (wM cI aM S) (some (.int q)) (wM cI aM S) := by
  refine Mc_of RX6 (by decide +kernel) rfl wc_X6_window (Nat.le_of_ble_eq_true rfl) ?_
  intro p e s m args below meth c A Q ls C hA hz hP hD hS hl RET
  have RETh : ∀ {pc : Nat} {ls : Array Slot} {H : Heap} {locs : List Loc} {x : Int32} , decode cX6_window pc = .ok (.ireturn, 1) → some x = some q → va_P D vwCl (wM cI aM S) H → va_D A (wM cI aM S) → va_S A s.heap H locs → W p l e (rmL 2) s m args below meth c H locs 0 0 Q (F0 m pc ls [.int x]) := by
    intro pc ls H locs x hd h hP hD hS; cases h; exact RET (x_iret C hd) hP hD hS
  have B50 : ∀ (n : Nat) (x : Int32 × Int32), iter (bfX6_window_50 p1 p2 S) n x = some q → (match x with | (x3, x4) => ∀ (H : Heap) (locs : List Loc) (ls : Array Slot), va_P D vwCl (wM cI aM S) H → va_D A (wM cI aM S) → va_S A s.heap H locs → lv_has ls 5 [(0, .ref (aM 0)), (1, .int p1), (3, .int x3), (4, .int x4)] → W p l e (rmL 2) s m args below meth c H locs 0 0 Q (F0 m 50 ls [])) := by
    refine iter_ind (fun x : Int32 × Int32 => (match x with | (x3, x4) => ∀ (H : Heap) (locs : List Loc) (ls : Array Slot), va_P D vwCl (wM cI aM S) H → va_D A (wM cI aM S) → va_S A s.heap H locs → lv_has ls 5 [(0, .ref (aM 0)), (1, .int p1), (3, .int x3), (4, .int x4)] → W p l e (rmL 2) s m args below meth c H locs 0 0 Q (F0 m 50 ls []))) ?_
    intro K50 ih50 x h
    obtain ⟨x3, x4⟩ := x
    intro H locs ls hP hD hS hl
    refine x_iload C dX6_window_50 hl 3 rfl ?_
    refine x_aload_n C dX6_window_52 rfl hl 0 rfl ?_
    refine x_get C inX6 hP 0 rfl rfl 0 (by decide) wf_X6_7 rfl dX6_window_53 ?_
    refine x_sipush (v := (182 : Int32)) C dX6_window_56 (by decide) ?_
    refine x_ialdK C (by decide) hP 1 rfl (t0 := 0) rfl dX6_window_59 ?_
    refine x_icmp_ge (tgt := 79) C h dX6_window_60 (by decide) (fun h => ?_) (fun h => ?_)
    · refine x_iload_n C dX6_window_79 rfl hl 2 rfl ?_
      exact RETh dX6_window_80 h hP hD hS
    · refine x_iload_n C dX6_window_63 rfl hl 2 rfl ?_
      refine x_aload_n C dX6_window_64 rfl hl 0 rfl ?_
      refine x_iload C dX6_window_65 hl 3 rfl ?_
      refine x_iload_n C dX6_window_67 rfl hl 1 rfl ?_
      obtain ⟨u6, hu6, h⟩ := ob_some h
      refine x_callV (As := [.int _, .int _]) (n := 2) C (kX6_past l D cI cS aM _ _ _ hu6) (fun hh => nomatch hh) wm_X6_181 wi_X6_past we_X6_past wz_X6 wc_X6_past (by decide +kernel) rfl hP hD hS hA 0 3 rfl rfl rfl hl.1 dX6_window_68 rfl (Nat.le_of_ble_eq_true rfl) ⟨Nat.le_of_ble_eq_true rfl, Nat.le_of_ble_eq_true rfl⟩ ⟨Nat.zero_le _, Nat.zero_le _⟩ (fun H locs hP hD hS => ?_)
      refine x_iadd C dX6_window_71 ?_
      refine x_nmi h (fun v7 h => ?_)
      refine x_istore_n (lv' := [(3, .int v7), (0, .ref (aM 0)), (1, .int p1), (4, .int x4)]) C dX6_window_72 rfl hl (by decide) rfl (fun ls hl => ?_)
      refine x_iinc (v := (x4 + (1 : Int32))) (lv' := [(4, .int (x4 + (1 : Int32))), (3, .int v7), (0, .ref (aM 0)), (1, .int p1)]) C dX6_window_73 hl (k := 3) rfl rfl (by decide) rfl (fun ls hl => ?_)
      refine x_goto (tgt := 50) C dX6_window_76 (by decide) ?_
      exact ih50 _ h _ _ _ hP hD hS (lv_sub hl [2, 3, 1, 0] rfl)
  have B19 : bfX6_window_19 p1 p2 S = some q → ∀ (H : Heap) (locs : List Loc) (ls : Array Slot), va_P D vwCl (wM cI aM S) H → va_D A (wM cI aM S) → va_S A s.heap H locs → lv_has ls 5 [] → W p l e (rmL 2) s m args below meth c H locs 0 0 Q (F0 m 19 ls []) := by
    intro  h H locs ls hP hD hS hl
    refine x_iconst (v := (-1 : Int32)) C dX6_window_19 (by decide) ?_
    exact RETh dX6_window_20 h hP hD hS
  refine x_iload_n C dX6_window_0 rfl hl 1 rfl ?_
  refine x_iconst (v := (0 : Int32)) C dX6_window_1 (by decide) ?_
  refine x_iconst (v := (3 : Int32)) C dX6_window_2 (by decide) ?_
  obtain ⟨u8, hu8, h⟩ := ob_some h
  refine x_callS (As := [.int _, .int _, .int _]) (n := 3) C (kX6_in l D cI cS _ _ _ _ hu8) (fun hh => nomatch hh) wm_X6_33 wt_X6_in wz_X6 wc_X6_in (by decide +kernel) rfl hP hD hS hA hl.1 dX6_window_3 rfl (Nat.le_of_ble_eq_true rfl) ⟨Nat.le_of_ble_eq_true rfl, Nat.le_of_ble_eq_true rfl⟩ ⟨Nat.zero_le _, Nat.zero_le _⟩ (fun H locs hP hD hS => ?_)
  refine x_if_eq (tgt := 19) C h dX6_window_6 (by decide) (fun h => ?_) (fun h => ?_)
  · exact B19  h _ _ _ hP hD hS (lv_sub hl [] rfl)
  · refine x_iload_n C dX6_window_9 rfl hl 2 rfl ?_
    refine x_iconst (v := (1 : Int32)) C dX6_window_10 (by decide) ?_
    refine x_bipush (v := (64 : Int32)) C dX6_window_11 (by decide) ?_
    obtain ⟨u9, hu9, h⟩ := ob_some h
    refine x_callS (As := [.int _, .int _, .int _]) (n := 3) C (kX6_in l D cI cS _ _ _ _ hu9) (fun hh => nomatch hh) wm_X6_33 wt_X6_in wz_X6 wc_X6_in (by decide +kernel) rfl hP hD hS hA hl.1 dX6_window_13 rfl (Nat.le_of_ble_eq_true rfl) ⟨Nat.le_of_ble_eq_true rfl, Nat.le_of_ble_eq_true rfl⟩ ⟨Nat.zero_le _, Nat.zero_le _⟩ (fun H locs hP hD hS => ?_)
    refine x_if_ne (tgt := 21) C h dX6_window_16 (by decide) (fun h => ?_) (fun h => ?_)
    · refine x_aload_n C dX6_window_21 rfl hl 0 rfl ?_
      refine x_get C inX6 hP 0 rfl rfl 0 (by decide) wf_X6_7 rfl dX6_window_22 ?_
      refine x_sipush (v := (182 : Int32)) C dX6_window_25 (by decide) ?_
      refine x_ialdK C (by decide) hP 1 rfl (t0 := 0) rfl dX6_window_28 ?_
      refine x_iload_n C dX6_window_29 rfl hl 2 rfl ?_
      refine x_icmp_ge (tgt := 36) C h dX6_window_30 (by decide) (fun h => ?_) (fun h => ?_)
      · refine x_iconst (v := (0 : Int32)) C dX6_window_36 (by decide) ?_
        refine x_istore_n (lv' := [(3, .int (0 : Int32)), (0, .ref (aM 0)), (1, .int p1), (2, .int p2)]) C dX6_window_37 rfl hl (by decide) rfl (fun ls hl => ?_)
        refine x_aload_n C dX6_window_38 rfl hl 1 rfl ?_
        refine x_get C inX6 hP 0 rfl rfl 0 (by decide) wf_X6_7 rfl dX6_window_39 ?_
        refine x_sipush (v := (182 : Int32)) C dX6_window_42 (by decide) ?_
        refine x_ialdK C (by decide) hP 1 rfl (t0 := 0) rfl dX6_window_45 ?_
        refine x_iload_n C dX6_window_46 rfl hl 3 rfl ?_
        refine x_isub C dX6_window_47 ?_
        refine x_nmi h (fun v10 h => ?_)
        refine x_istore (lv' := [(4, .int v10), (3, .int (0 : Int32)), (0, .ref (aM 0)), (1, .int p1), (2, .int p2)]) C dX6_window_48 hl (by decide) rfl (fun ls hl => ?_)
        exact B50 FU _ h _ _ _ hP hD hS (lv_sub hl [2, 3, 1, 0] rfl)
      · refine x_bipush (v := (-2 : Int32)) C dX6_window_33 (by decide) ?_
        exact RETh dX6_window_35 h hP hD hS
    · exact B19  h _ _ _ hP hD hS (lv_sub hl [] rfl)
