/-! the reference: page, some, and the fields by their numbers -/
abbrev MS : Type := (Nat → Int32) × (Nat → Int32) × (Nat → Int32)
def wM (cI : ClassId) (aM : Nat → Nat) (S : MS) : va_W := [(aM 0, .inr (3, [.ref (aM 1), .int (S.2.2 1), .ref (aM 2), .ref (aM 3), .ref (aM 4), .int (S.2.2 5), .int (S.2.2 6), .int (S.2.2 7), .int (S.2.2 8), .ref (aM 5)])), (aM 1, .inl (cI, 5130, .inl S.1)), (aM 2, .inl (cI, 12, .inl (tabI leastL))), (aM 3, .inl (cI, 12, .inl (tabI mostL))), (aM 4, .inl (cI, 12, .inl (tabI firstL))), (aM 5, .inl (cI, 16, .inl S.2.1))]
theorem dX6_slot_0 : decode cX6_slot 0 = .ok (.sipush 317, 3) := by decide +kernel
theorem dX6_slot_3 : decode cX6_slot 3 = .ok (.bipush 10, 2) := by decide +kernel
theorem dX6_slot_5 : decode cX6_slot 5 = .ok (.iload_n 1, 1) := by decide +kernel
theorem dX6_slot_6 : decode cX6_slot 6 = .ok (.imul, 1) := by decide +kernel
theorem dX6_slot_7 : decode cX6_slot 7 = .ok (.iadd, 1) := by decide +kernel
theorem dX6_slot_8 : decode cX6_slot 8 = .ok (.ireturn, 1) := by decide +kernel
def fX6_slot (p1 : Int32) (S : MS) : Option (Int32) :=
  some ((317 : Int32) + ((10 : Int32) * p1))
set_option maxHeartbeats 4000000 in
set_option maxRecDepth 100000 in
theorem kX6_slot (l : Launch) (D : va_G) (cI cS : ClassId) (aM : Nat → Nat) (p1 : Int32) (S : MS) {q : Int32} (h : fX6_slot p1 S = some q) : Mc l D (tyL cI cS) false yX6_slot cX6_slot 2 (some .int) 1 [.ref (aM 0), .int p1] (wM cI aM S) (some (.int q)) (wM cI aM S) := by
  refine Mc_of RX6 (by decide +kernel) rfl wc_X6_slot (Nat.le_of_ble_eq_true rfl) ?_
  intro p e s m args below meth c A Q ls C hA hz hP hD hS hl RET
  have RETh : ∀ {pc : Nat} {ls : Array Slot} {H : Heap} {locs : List Loc} {x : Int32} , decode cX6_slot pc = .ok (.ireturn, 1) → some x = some q → va_P D vwCl (wM cI aM S) H → va_D A (wM cI aM S) → va_S A s.heap H locs → W p l e (rmL 1) s m args below meth c H locs 0 0 Q (F0 m pc ls [.int x]) := by
    intro pc ls H locs x hd h hP hD hS; cases h; exact RET (x_iret C hd) hP hD hS
  refine x_sipush (v := (317 : Int32)) C dX6_slot_0 (by decide) ?_
  refine x_bipush (v := (10 : Int32)) C dX6_slot_3 (by decide) ?_
  refine x_iload_n C dX6_slot_5 rfl hl 1 rfl ?_
  refine x_imul C dX6_slot_6 ?_
  refine x_iadd C dX6_slot_7 ?_
  exact RETh dX6_slot_8 h hP hD hS
theorem dX6_leaves_0 : decode cX6_leaves 0 = .ok (.aload_n 0, 1) := by decide +kernel
theorem dX6_leaves_1 : decode cX6_leaves 1 = .ok (.getfield 7, 3) := by decide +kernel
theorem dX6_leaves_4 : decode cX6_leaves 4 = .ok (.aload_n 0, 1) := by decide +kernel
theorem dX6_leaves_5 : decode cX6_leaves 5 = .ok (.iload_n 1, 1) := by decide +kernel
theorem dX6_leaves_6 : decode cX6_leaves 6 = .ok (.invokevirtual 74, 3) := by decide +kernel
theorem dX6_leaves_9 : decode cX6_leaves 9 = .ok (.bipush 6, 2) := by decide +kernel
theorem dX6_leaves_11 : decode cX6_leaves 11 = .ok (.iadd, 1) := by decide +kernel
theorem dX6_leaves_12 : decode cX6_leaves 12 = .ok (.iaload, 1) := by decide +kernel
theorem dX6_leaves_13 : decode cX6_leaves 13 = .ok (.istore_n 3, 1) := by decide +kernel
theorem dX6_leaves_14 : decode cX6_leaves 14 = .ok (.aload_n 0, 1) := by decide +kernel
theorem dX6_leaves_15 : decode cX6_leaves 15 = .ok (.getfield 7, 3) := by decide +kernel
theorem dX6_leaves_18 : decode cX6_leaves 18 = .ok (.sipush 185, 3) := by decide +kernel
theorem dX6_leaves_21 : decode cX6_leaves 21 = .ok (.dup2, 1) := by decide +kernel
theorem dX6_leaves_22 : decode cX6_leaves 22 = .ok (.iaload, 1) := by decide +kernel
theorem dX6_leaves_23 : decode cX6_leaves 23 = .ok (.iload_n 2, 1) := by decide +kernel
theorem dX6_leaves_24 : decode cX6_leaves 24 = .ok (.ifCond .eq 7, 3) := by decide +kernel
theorem dX6_leaves_27 : decode cX6_leaves 27 = .ok (.iload_n 3, 1) := by decide +kernel
theorem dX6_leaves_28 : decode cX6_leaves 28 = .ok (.goto 4, 3) := by decide +kernel
theorem dX6_leaves_31 : decode cX6_leaves 31 = .ok (.iconst 0, 1) := by decide +kernel
theorem dX6_leaves_32 : decode cX6_leaves 32 = .ok (.iadd, 1) := by decide +kernel
theorem dX6_leaves_33 : decode cX6_leaves 33 = .ok (.iastore, 1) := by decide +kernel
theorem dX6_leaves_34 : decode cX6_leaves 34 = .ok (.aload_n 0, 1) := by decide +kernel
theorem dX6_leaves_35 : decode cX6_leaves 35 = .ok (.getfield 7, 3) := by decide +kernel
theorem dX6_leaves_38 : decode cX6_leaves 38 = .ok (.sipush 186, 3) := by decide +kernel
theorem dX6_leaves_41 : decode cX6_leaves 41 = .ok (.dup2, 1) := by decide +kernel
theorem dX6_leaves_42 : decode cX6_leaves 42 = .ok (.iaload, 1) := by decide +kernel
theorem dX6_leaves_43 : decode cX6_leaves 43 = .ok (.iload_n 2, 1) := by decide +kernel
theorem dX6_leaves_44 : decode cX6_leaves 44 = .ok (.ifCond .eq 7, 3) := by decide +kernel
theorem dX6_leaves_47 : decode cX6_leaves 47 = .ok (.iconst 0, 1) := by decide +kernel
theorem dX6_leaves_48 : decode cX6_leaves 48 = .ok (.goto 4, 3) := by decide +kernel
theorem dX6_leaves_51 : decode cX6_leaves 51 = .ok (.iload_n 3, 1) := by decide +kernel
theorem dX6_leaves_52 : decode cX6_leaves 52 = .ok (.iadd, 1) := by decide +kernel
theorem dX6_leaves_53 : decode cX6_leaves 53 = .ok (.iastore, 1) := by decide +kernel
theorem dX6_leaves_54 : decode cX6_leaves 54 = .ok (.aload_n 0, 1) := by decide +kernel
theorem dX6_leaves_55 : decode cX6_leaves 55 = .ok (.dup, 1) := by decide +kernel
theorem dX6_leaves_56 : decode cX6_leaves 56 = .ok (.getfield 77, 3) := by decide +kernel
theorem dX6_leaves_59 : decode cX6_leaves 59 = .ok (.iload_n 2, 1) := by decide +kernel
theorem dX6_leaves_60 : decode cX6_leaves 60 = .ok (.ifCond .eq 7, 3) := by decide +kernel
theorem dX6_leaves_63 : decode cX6_leaves 63 = .ok (.iconst 0, 1) := by decide +kernel
theorem dX6_leaves_64 : decode cX6_leaves 64 = .ok (.goto 4, 3) := by decide +kernel
theorem dX6_leaves_67 : decode cX6_leaves 67 = .ok (.iload_n 3, 1) := by decide +kernel
theorem dX6_leaves_68 : decode cX6_leaves 68 = .ok (.iadd, 1) := by decide +kernel
theorem dX6_leaves_69 : decode cX6_leaves 69 = .ok (.putfield 77, 3) := by decide +kernel
theorem dX6_leaves_72 : decode cX6_leaves 72 = .ok (.aload_n 0, 1) := by decide +kernel
theorem dX6_leaves_73 : decode cX6_leaves 73 = .ok (.getfield 7, 3) := by decide +kernel
theorem dX6_leaves_76 : decode cX6_leaves 76 = .ok (.aload_n 0, 1) := by decide +kernel
theorem dX6_leaves_77 : decode cX6_leaves 77 = .ok (.iload_n 1, 1) := by decide +kernel
theorem dX6_leaves_78 : decode cX6_leaves 78 = .ok (.invokevirtual 74, 3) := by decide +kernel
theorem dX6_leaves_81 : decode cX6_leaves 81 = .ok (.bipush 9, 2) := by decide +kernel
theorem dX6_leaves_83 : decode cX6_leaves 83 = .ok (.iadd, 1) := by decide +kernel
theorem dX6_leaves_84 : decode cX6_leaves 84 = .ok (.iconst 0, 1) := by decide +kernel
theorem dX6_leaves_85 : decode cX6_leaves 85 = .ok (.iastore, 1) := by decide +kernel
theorem dX6_leaves_86 : decode cX6_leaves 86 = .ok (.return_, 1) := by decide +kernel
def bfX6_leaves_68 (p1 : Int32) (p2 : Int32) (s1 : Int32) (s2 : Int32) (S : MS) : Option (MS) :=
  nm (S.1, S.2.1, upd S.2.2 8 (s1 + s2)) fun S8 => ob (fX6_slot p1 S8) fun u9 => (if okI (u9 + (9 : Int32)) 5130 then nm (upd S8.1 ((u9 + (9 : Int32))).toNatClampNeg (0 : Int32), S8.2) fun S10 => some S10 else none)
def bfX6_leaves_52 (p1 : Int32) (p2 : Int32) (x3 : Int32) (s1 : Int32) (s2 : Int32) (s3 : Int32) (S : MS) : Option (MS) :=
  (if okI s1 5130 then nm (upd S.1 (s1).toNatClampNeg (s2 + s3), S.2) fun S11 => (if p2 = 0 then bfX6_leaves_68 p1 p2  ((S11.2.2 8)) x3 S11 else bfX6_leaves_68 p1 p2  ((S11.2.2 8)) ((0 : Int32)) S11) else none)
def bfX6_leaves_32 (p1 : Int32) (p2 : Int32) (x3 : Int32) (s1 : Int32) (s2 : Int32) (s3 : Int32) (S : MS) : Option (MS) :=
  (if okI s1 5130 then nm (upd S.1 (s1).toNatClampNeg (s2 + s3), S.2) fun S12 => (if p2 = 0 then bfX6_leaves_52 p1 p2  x3 ((186 : Int32)) ((S12.1 ((186 : Int32)).toNatClampNeg)) x3 S12 else bfX6_leaves_52 p1 p2  x3 ((186 : Int32)) ((S12.1 ((186 : Int32)).toNatClampNeg)) ((0 : Int32)) S12) else none)
def fX6_leaves (p1 : Int32) (p2 : Int32) (S : MS) : Option (MS) :=
  ob (fX6_slot p1 S) fun u13 => (if okI (u13 + (6 : Int32)) 5130 then nm ((S.1 ((u13 + (6 : Int32))).toNatClampNeg)) fun v14 => (if p2 = 0 then bfX6_leaves_32 p1 p2  v14 ((185 : Int32)) ((S.1 ((185 : Int32)).toNatClampNeg)) ((0 : Int32)) S else bfX6_leaves_32 p1 p2  v14 ((185 : Int32)) ((S.1 ((185 : Int32)).toNatClampNeg)) v14 S) else none)
set_option maxHeartbeats 4000000 in
set_option maxRecDepth 100000 in
theorem kX6_leaves (l : Launch) (D : va_G) (cI cS : ClassId) (aM : Nat → Nat) (p1 : Int32) (p2 : Int32) (S : MS) {q : MS} (h : fX6_leaves p1 p2 S = some q) : Mc l D (tyL cI cS) false yX6_leaves cX6_leaves 4 none 2 [.ref (aM 0), .int p1, .int p2] (wM cI aM S) none (wM cI aM q) := by
  refine Mc_of RX6 (by decide +kernel) rfl wc_X6_leaves (Nat.le_of_ble_eq_true rfl) ?_
  intro p e s m args below meth c A Q ls C hA hz hP hD hS hl RET
  have RETh : ∀ {pc : Nat} {ls : Array Slot} {H : Heap} {locs : List Loc} {S1 : MS}, decode cX6_leaves pc = .ok (.return_, 1) → some S1 = some q → va_P D vwCl (wM cI aM S1) H → va_D A (wM cI aM S1) → va_S A s.heap H locs → W p l e (rmL 2) s m args below meth c H locs 0 0 Q (F0 m pc ls []) := by
    intro pc ls H locs S1 hd h hP hD hS; cases h; exact RET (x_vret C hd) hP hD hS
  have B68 : ∀ (s1 : Int32) (s2 : Int32) (S : MS), bfX6_leaves_68 p1 p2 s1 s2 S = some q → ∀ (H : Heap) (locs : List Loc) (ls : Array Slot), va_P D vwCl (wM cI aM S) H → va_D A (wM cI aM S) → va_S A s.heap H locs → lv_has ls 4 [(0, .ref (aM 0)), (1, .int p1)] → W p l e (rmL 2) s m args below meth c H locs 0 0 Q (F0 m 68 ls [.int s2, .int s1, .ref (aM 0)]) := by
    intro s1 s2 S h H locs ls hP hD hS hl
    refine x_iadd C dX6_leaves_68 ?_
    refine x_putM (wM cI aM) C h inX6 tyX6 tyX6_ok nmX6 hP hD hS 0 rfl rfl 8 (by decide) wf_X6_77 rfl (ft := .int) (by decide +kernel) rfl rfl (Nat.le_of_ble_eq_true rfl) rfl dX6_leaves_69 (fun S8 h H locs hP hD hS => ?_)
    refine x_aload_n C dX6_leaves_72 rfl hl 0 rfl ?_
    refine x_get C inX6 hP 0 rfl rfl 0 (by decide) wf_X6_7 rfl dX6_leaves_73 ?_
    refine x_aload_n C dX6_leaves_76 rfl hl 0 rfl ?_
    refine x_iload_n C dX6_leaves_77 rfl hl 1 rfl ?_
    obtain ⟨u9, hu9, h⟩ := ob_some h
    refine x_callV (As := [.int _]) (n := 1) C (kX6_slot l D cI cS aM _ _ hu9) (fun hh => nomatch hh) wm_X6_74 wi_X6_slot we_X6_slot wz_X6 wc_X6_slot (by decide +kernel) rfl hP hD hS hA 0 3 rfl rfl rfl hl.1 dX6_leaves_78 rfl (Nat.le_of_ble_eq_true rfl) ⟨Nat.le_of_ble_eq_true rfl, Nat.le_of_ble_eq_true rfl⟩ ⟨Nat.zero_le _, Nat.zero_le _⟩ (fun H locs hP hD hS => ?_)
    refine x_bipush (v := (9 : Int32)) C dX6_leaves_81 (by decide) ?_
    refine x_iadd C dX6_leaves_83 ?_
    refine x_iconst (v := (0 : Int32)) C dX6_leaves_84 (by decide) ?_
    refine x_iastM (wM cI aM) C h hP hD hS 1 rfl (t0 := 0) rfl rfl dX6_leaves_85 (fun S10 h H locs hP hD hS => ?_)
    exact RETh dX6_leaves_86 h hP hD hS
  have B52 : ∀ (x3 : Int32) (s1 : Int32) (s2 : Int32) (s3 : Int32) (S : MS), bfX6_leaves_52 p1 p2 x3 s1 s2 s3 S = some q → ∀ (H : Heap) (locs : List Loc) (ls : Array Slot), va_P D vwCl (wM cI aM S) H → va_D A (wM cI aM S) → va_S A s.heap H locs → lv_has ls 4 [(0, .ref (aM 0)), (1, .int p1), (2, .int p2), (3, .int x3)] → W p l e (rmL 2) s m args below meth c H locs 0 0 Q (F0 m 52 ls [.int s3, .int s2, .int s1, .ref (aM 1)]) := by
    intro x3 s1 s2 s3 S h H locs ls hP hD hS hl
    refine x_iadd C dX6_leaves_52 ?_
    refine x_iastM (wM cI aM) C h hP hD hS 1 rfl (t0 := 0) rfl rfl dX6_leaves_53 (fun S11 h H locs hP hD hS => ?_)
    refine x_aload_n C dX6_leaves_54 rfl hl 0 rfl ?_
    refine x_dup C dX6_leaves_55 rfl ?_
    refine x_get C inX6 hP 0 rfl rfl 8 (by decide) wf_X6_77 rfl dX6_leaves_56 ?_
    refine x_iload_n C dX6_leaves_59 rfl hl 2 rfl ?_
    refine x_if_eq (tgt := 67) C h dX6_leaves_60 (by decide) (fun h => ?_) (fun h => ?_)
    · refine x_iload_n C dX6_leaves_67 rfl hl 3 rfl ?_
      exact B68 _ _ _ h _ _ _ hP hD hS (lv_sub hl [0, 1] rfl)
    · refine x_iconst (v := (0 : Int32)) C dX6_leaves_63 (by decide) ?_
      refine x_goto (tgt := 68) C dX6_leaves_64 (by decide) ?_
      exact B68 _ _ _ h _ _ _ hP hD hS (lv_sub hl [0, 1] rfl)
  have B32 : ∀ (x3 : Int32) (s1 : Int32) (s2 : Int32) (s3 : Int32) (S : MS), bfX6_leaves_32 p1 p2 x3 s1 s2 s3 S = some q → ∀ (H : Heap) (locs : List Loc) (ls : Array Slot), va_P D vwCl (wM cI aM S) H → va_D A (wM cI aM S) → va_S A s.heap H locs → lv_has ls 4 [(0, .ref (aM 0)), (1, .int p1), (2, .int p2), (3, .int x3)] → W p l e (rmL 2) s m args below meth c H locs 0 0 Q (F0 m 32 ls [.int s3, .int s2, .int s1, .ref (aM 1)]) := by
    intro x3 s1 s2 s3 S h H locs ls hP hD hS hl
    refine x_iadd C dX6_leaves_32 ?_
    refine x_iastM (wM cI aM) C h hP hD hS 1 rfl (t0 := 0) rfl rfl dX6_leaves_33 (fun S12 h H locs hP hD hS => ?_)
    refine x_aload_n C dX6_leaves_34 rfl hl 0 rfl ?_
    refine x_get C inX6 hP 0 rfl rfl 0 (by decide) wf_X6_7 rfl dX6_leaves_35 ?_
    refine x_sipush (v := (186 : Int32)) C dX6_leaves_38 (by decide) ?_
    refine x_dup2 C dX6_leaves_41 rfl rfl ?_
    refine x_ialdK C (by decide) hP 1 rfl (t0 := 0) rfl dX6_leaves_42 ?_
    refine x_iload_n C dX6_leaves_43 rfl hl 2 rfl ?_
    refine x_if_eq (tgt := 51) C h dX6_leaves_44 (by decide) (fun h => ?_) (fun h => ?_)
    · refine x_iload_n C dX6_leaves_51 rfl hl 3 rfl ?_
      exact B52 _ _ _ _ _ h _ _ _ hP hD hS hl
    · refine x_iconst (v := (0 : Int32)) C dX6_leaves_47 (by decide) ?_
      refine x_goto (tgt := 52) C dX6_leaves_48 (by decide) ?_
      exact B52 _ _ _ _ _ h _ _ _ hP hD hS hl
  refine x_aload_n C dX6_leaves_0 rfl hl 0 rfl ?_
  refine x_get C inX6 hP 0 rfl rfl 0 (by decide) wf_X6_7 rfl dX6_leaves_1 ?_
  refine x_aload_n C dX6_leaves_4 rfl hl 0 rfl ?_
  refine x_iload_n C dX6_leaves_5 rfl hl 1 rfl ?_
  obtain ⟨u13, hu13, h⟩ := ob_some h
  refine x_callV (As := [.int _]) (n := 1) C (kX6_slot l D cI cS aM _ _ hu13) (fun hh => nomatch hh) wm_X6_74 wi_X6_slot we_X6_slot wz_X6 wc_X6_slot (by decide +kernel) rfl hP hD hS hA 0 3 rfl rfl rfl hl.1 dX6_leaves_6 rfl (Nat.le_of_ble_eq_true rfl) ⟨Nat.le_of_ble_eq_true rfl, Nat.le_of_ble_eq_true rfl⟩ ⟨Nat.zero_le _, Nat.zero_le _⟩ (fun H locs hP hD hS => ?_)
  refine x_bipush (v := (6 : Int32)) C dX6_leaves_9 (by decide) ?_
  refine x_iadd C dX6_leaves_11 ?_
  refine x_iald C h hP 1 rfl (t0 := 0) rfl dX6_leaves_12 (fun h => ?_)
  refine x_nmi h (fun v14 h => ?_)
  refine x_istore_n (lv' := [(3, .int v14), (0, .ref (aM 0)), (1, .int p1), (2, .int p2)]) C dX6_leaves_13 rfl hl (by decide) rfl (fun ls hl => ?_)
  refine x_aload_n C dX6_leaves_14 rfl hl 1 rfl ?_
  refine x_get C inX6 hP 0 rfl rfl 0 (by decide) wf_X6_7 rfl dX6_leaves_15 ?_
  refine x_sipush (v := (185 : Int32)) C dX6_leaves_18 (by decide) ?_
  refine x_dup2 C dX6_leaves_21 rfl rfl ?_
  refine x_ialdK C (by decide) hP 1 rfl (t0 := 0) rfl dX6_leaves_22 ?_
  refine x_iload_n C dX6_leaves_23 rfl hl 3 rfl ?_
  refine x_if_eq (tgt := 31) C h dX6_leaves_24 (by decide) (fun h => ?_) (fun h => ?_)
  · refine x_iconst (v := (0 : Int32)) C dX6_leaves_31 (by decide) ?_
    exact B32 _ _ _ _ _ h _ _ _ hP hD hS (lv_sub hl [1, 2, 3, 0] rfl)
  · refine x_iload_n C dX6_leaves_27 rfl hl 0 rfl ?_
    refine x_goto (tgt := 32) C dX6_leaves_28 (by decide) ?_
    exact B32 _ _ _ _ _ h _ _ _ hP hD hS (lv_sub hl [1, 2, 3, 0] rfl)
theorem dX6_pulls_0 : decode cX6_pulls 0 = .ok (.aload_n 0, 1) := by decide +kernel
theorem dX6_pulls_1 : decode cX6_pulls 1 = .ok (.getfield 7, 3) := by decide +kernel
theorem dX6_pulls_4 : decode cX6_pulls 4 = .ok (.iload_n 2, 1) := by decide +kernel
theorem dX6_pulls_5 : decode cX6_pulls 5 = .ok (.iload_n 3, 1) := by decide +kernel
theorem dX6_pulls_6 : decode cX6_pulls 6 = .ok (.iadd, 1) := by decide +kernel
theorem dX6_pulls_7 : decode cX6_pulls 7 = .ok (.iaload, 1) := by decide +kernel
theorem dX6_pulls_8 : decode cX6_pulls 8 = .ok (.istore 4, 2) := by decide +kernel
theorem dX6_pulls_10 : decode cX6_pulls 10 = .ok (.iload_n 3, 1) := by decide +kernel
theorem dX6_pulls_11 : decode cX6_pulls 11 = .ok (.istore 5, 2) := by decide +kernel
theorem dX6_pulls_13 : decode cX6_pulls 13 = .ok (.iload 5, 2) := by decide +kernel
theorem dX6_pulls_15 : decode cX6_pulls 15 = .ok (.iconst 1, 1) := by decide +kernel
theorem dX6_pulls_16 : decode cX6_pulls 16 = .ok (.iadd, 1) := by decide +kernel
theorem dX6_pulls_17 : decode cX6_pulls 17 = .ok (.aload_n 0, 1) := by decide +kernel
theorem dX6_pulls_18 : decode cX6_pulls 18 = .ok (.getfield 7, 3) := by decide +kernel
theorem dX6_pulls_21 : decode cX6_pulls 21 = .ok (.iload_n 1, 1) := by decide +kernel
theorem dX6_pulls_22 : decode cX6_pulls 22 = .ok (.iaload, 1) := by decide +kernel
theorem dX6_pulls_23 : decode cX6_pulls 23 = .ok (.if_icmp .ge 29, 3) := by decide +kernel
theorem dX6_pulls_26 : decode cX6_pulls 26 = .ok (.aload_n 0, 1) := by decide +kernel
theorem dX6_pulls_27 : decode cX6_pulls 27 = .ok (.getfield 7, 3) := by decide +kernel
theorem dX6_pulls_30 : decode cX6_pulls 30 = .ok (.iload_n 2, 1) := by decide +kernel
theorem dX6_pulls_31 : decode cX6_pulls 31 = .ok (.iload 5, 2) := by decide +kernel
theorem dX6_pulls_33 : decode cX6_pulls 33 = .ok (.iadd, 1) := by decide +kernel
theorem dX6_pulls_34 : decode cX6_pulls 34 = .ok (.aload_n 0, 1) := by decide +kernel
theorem dX6_pulls_35 : decode cX6_pulls 35 = .ok (.getfield 7, 3) := by decide +kernel
theorem dX6_pulls_38 : decode cX6_pulls 38 = .ok (.iload_n 2, 1) := by decide +kernel
theorem dX6_pulls_39 : decode cX6_pulls 39 = .ok (.iload 5, 2) := by decide +kernel
theorem dX6_pulls_41 : decode cX6_pulls 41 = .ok (.iadd, 1) := by decide +kernel
theorem dX6_pulls_42 : decode cX6_pulls 42 = .ok (.iconst 1, 1) := by decide +kernel
theorem dX6_pulls_43 : decode cX6_pulls 43 = .ok (.iadd, 1) := by decide +kernel
theorem dX6_pulls_44 : decode cX6_pulls 44 = .ok (.iaload, 1) := by decide +kernel
theorem dX6_pulls_45 : decode cX6_pulls 45 = .ok (.iastore, 1) := by decide +kernel
theorem dX6_pulls_46 : decode cX6_pulls 46 = .ok (.iinc 5 1, 3) := by decide +kernel
theorem dX6_pulls_49 : decode cX6_pulls 49 = .ok (.goto (-36), 3) := by decide +kernel
theorem dX6_pulls_52 : decode cX6_pulls 52 = .ok (.aload_n 0, 1) := by decide +kernel
theorem dX6_pulls_53 : decode cX6_pulls 53 = .ok (.getfield 7, 3) := by decide +kernel
theorem dX6_pulls_56 : decode cX6_pulls 56 = .ok (.iload_n 1, 1) := by decide +kernel
theorem dX6_pulls_57 : decode cX6_pulls 57 = .ok (.dup2, 1) := by decide +kernel
theorem dX6_pulls_58 : decode cX6_pulls 58 = .ok (.iaload, 1) := by decide +kernel
theorem dX6_pulls_59 : decode cX6_pulls 59 = .ok (.iconst 1, 1) := by decide +kernel
theorem dX6_pulls_60 : decode cX6_pulls 60 = .ok (.isub, 1) := by decide +kernel
theorem dX6_pulls_61 : decode cX6_pulls 61 = .ok (.iastore, 1) := by decide +kernel
theorem dX6_pulls_62 : decode cX6_pulls 62 = .ok (.iload 4, 2) := by decide +kernel
theorem dX6_pulls_64 : decode cX6_pulls 64 = .ok (.ireturn, 1) := by decide +kernel
def bfX6_pulls_13 (p1 : Int32) (p2 : Int32) (p3 : Int32) (K13 : Int32 × Int32 × (MS) → Option (Int32 × (MS))) (x : Int32 × Int32 × (MS)) : Option (Int32 × (MS)) :=
  match x with
  | (x4, x5, S) => (if okI p1 5130 then (if (S.1 (p1).toNatClampNeg) ≤ (x5 + (1 : Int32)) then (if okI p1 5130 then (if okI p1 5130 then nm (upd S.1 (p1).toNatClampNeg ((S.1 (p1).toNatClampNeg) - (1 : Int32)), S.2) fun S4 => some (x4, S4) else none) else none) else (if okI ((p2 + x5) + (1 : Int32)) 5130 then (if okI (p2 + x5) 5130 then nm (upd S.1 ((p2 + x5)).toNatClampNeg (S.1 (((p2 + x5) + (1 : Int32))).toNatClampNeg), S.2) fun S5 => K13 (x4, (x5 + (1 : Int32)), S5) else none) else none)) else none)
def fX6_pulls (p1 : Int32) (p2 : Int32) (p3 : Int32) (S : MS) : Option (Int32 × (MS)) :=
  (if okI (p2 + p3) 5130 then nm ((S.1 ((p2 + p3)).toNatClampNeg)) fun v6 => iter (bfX6_pulls_13 p1 p2 p3) FU (v6, p3, S) else none)
set_option maxHeartbeats 4000000 in
set_option maxRecDepth 100000 in
theorem kX6_pulls (l : Launch) (D : va_G) (cI cS : ClassId) (aM : Nat → Nat) (p1 : Int32) (p2 : Int32) (p3 : Int32) (S : MS) {q : Int32 × (MS)} (h : fX6_pulls p1 p2 p3 S = some q) : Mc l D (tyL cI cS) false yX6_pulls cX6_pulls 6 (some .int) 1 [.ref (aM 0), .int p1, .int p2, .int p3] (wM cI aM S) (some (.int q.1)) (wM cI aM q.2) := by
  refine Mc_of RX6 (by decide +kernel) rfl wc_X6_pulls (Nat.le_of_ble_eq_true rfl) ?_
  intro p e s m args below meth c A Q ls C hA hz hP hD hS hl RET
  have RETh : ∀ {pc : Nat} {ls : Array Slot} {H : Heap} {locs : List Loc} {x : Int32} {S1 : MS}, decode cX6_pulls pc = .ok (.ireturn, 1) → some (x, S1) = some q → va_P D vwCl (wM cI aM S1) H → va_D A (wM cI aM S1) → va_S A s.heap H locs → W p l e (rmL 1) s m args below meth c H locs 0 0 Q (F0 m pc ls [.int x]) := by
    intro pc ls H locs x S1 hd h hP hD hS; cases h; exact RET (x_iret C hd) hP hD hS
  have B13 : ∀ (n : Nat) (x : Int32 × Int32 × (MS)), iter (bfX6_pulls_13 p1 p2 p3) n x = some q → (match x with | (x4, x5, S) => ∀ (H : Heap) (locs : List Loc) (ls : Array Slot), va_P D vwCl (wM cI aM S) H → va_D A (wM cI aM S) → va_S A s.heap H locs → lv_has ls 6 [(0, .ref (aM 0)), (1, .int p1), (2, .int p2), (4, .int x4), (5, .int x5)] → W p l e (rmL 1) s m args below meth c H locs 0 0 Q (F0 m 13 ls [])) := by
    refine iter_ind (fun x : Int32 × Int32 × (MS) => (match x with | (x4, x5, S) => ∀ (H : Heap) (locs : List Loc) (ls : Array Slot), va_P D vwCl (wM cI aM S) H → va_D A (wM cI aM S) → va_S A s.heap H locs → lv_has ls 6 [(0, .ref (aM 0)), (1, .int p1), (2, .int p2), (4, .int x4), (5, .int x5)] → W p l e (rmL 1) s m args below meth c H locs 0 0 Q (F0 m 13 ls []))) ?_
    intro K13 ih13 x h
    obtain ⟨x4, x5, S⟩ := x
    intro H locs ls hP hD hS hl
    refine x_iload C dX6_pulls_13 hl 4 rfl ?_
    refine x_iconst (v := (1 : Int32)) C dX6_pulls_15 (by decide) ?_
    refine x_iadd C dX6_pulls_16 ?_
    refine x_aload_n C dX6_pulls_17 rfl hl 0 rfl ?_
    refine x_get C inX6 hP 0 rfl rfl 0 (by decide) wf_X6_7 rfl dX6_pulls_18 ?_
    refine x_iload_n C dX6_pulls_21 rfl hl 1 rfl ?_
    refine x_iald C h hP 1 rfl (t0 := 0) rfl dX6_pulls_22 (fun h => ?_)
    refine x_icmp_ge (tgt := 52) C h dX6_pulls_23 (by decide) (fun h => ?_) (fun h => ?_)
    · refine x_aload_n C dX6_pulls_52 rfl hl 0 rfl ?_
      refine x_get C inX6 hP 0 rfl rfl 0 (by decide) wf_X6_7 rfl dX6_pulls_53 ?_
      refine x_iload_n C dX6_pulls_56 rfl hl 1 rfl ?_
      refine x_dup2 C dX6_pulls_57 rfl rfl ?_
      refine x_iald C h hP 1 rfl (t0 := 0) rfl dX6_pulls_58 (fun h => ?_)
      refine x_iconst (v := (1 : Int32)) C dX6_pulls_59 (by decide) ?_
      refine x_isub C dX6_pulls_60 ?_
      refine x_iastM (wM cI aM) C h hP hD hS 1 rfl (t0 := 0) rfl rfl dX6_pulls_61 (fun S4 h H locs hP hD hS => ?_)
      refine x_iload C dX6_pulls_62 hl 3 rfl ?_
      exact RETh dX6_pulls_64 h hP hD hS
    · refine x_aload_n C dX6_pulls_26 rfl hl 0 rfl ?_
      refine x_get C inX6 hP 0 rfl rfl 0 (by decide) wf_X6_7 rfl dX6_pulls_27 ?_
      refine x_iload_n C dX6_pulls_30 rfl hl 2 rfl ?_
      refine x_iload C dX6_pulls_31 hl 4 rfl ?_
      refine x_iadd C dX6_pulls_33 ?_
      refine x_aload_n C dX6_pulls_34 rfl hl 0 rfl ?_
      refine x_get C inX6 hP 0 rfl rfl 0 (by decide) wf_X6_7 rfl dX6_pulls_35 ?_
      refine x_iload_n C dX6_pulls_38 rfl hl 2 rfl ?_
      refine x_iload C dX6_pulls_39 hl 4 rfl ?_
      refine x_iadd C dX6_pulls_41 ?_
      refine x_iconst (v := (1 : Int32)) C dX6_pulls_42 (by decide) ?_
      refine x_iadd C dX6_pulls_43 ?_
      refine x_iald C h hP 1 rfl (t0 := 0) rfl dX6_pulls_44 (fun h => ?_)
      refine x_iastM (wM cI aM) C h hP hD hS 1 rfl (t0 := 0) rfl rfl dX6_pulls_45 (fun S5 h H locs hP hD hS => ?_)
      refine x_iinc (v := (x5 + (1 : Int32))) (lv' := [(5, .int (x5 + (1 : Int32))), (0, .ref (aM 0)), (1, .int p1), (2, .int p2), (4, .int x4)]) C dX6_pulls_46 hl (k := 4) rfl rfl (by decide) rfl (fun ls hl => ?_)
      refine x_goto (tgt := 13) C dX6_pulls_49 (by decide) ?_
      exact ih13 _ h _ _ _ hP hD hS (lv_sub hl [1, 2, 3, 4, 0] rfl)
  refine x_aload_n C dX6_pulls_0 rfl hl 0 rfl ?_
  refine x_get C inX6 hP 0 rfl rfl 0 (by decide) wf_X6_7 rfl dX6_pulls_1 ?_
  refine x_iload_n C dX6_pulls_4 rfl hl 2 rfl ?_
  refine x_iload_n C dX6_pulls_5 rfl hl 3 rfl ?_
  refine x_iadd C dX6_pulls_6 ?_
  refine x_iald C h hP 1 rfl (t0 := 0) rfl dX6_pulls_7 (fun h => ?_)
  refine x_nmi h (fun v6 h => ?_)
  refine x_istore (lv' := [(4, .int v6), (0, .ref (aM 0)), (1, .int p1), (2, .int p2), (3, .int p3)]) C dX6_pulls_8 hl (by decide) rfl (fun ls hl => ?_)
  refine x_iload_n C dX6_pulls_10 rfl hl 4 rfl ?_
  refine x_istore (lv' := [(5, .int p3), (4, .int v6), (0, .ref (aM 0)), (1, .int p1), (2, .int p2), (3, .int p3)]) C dX6_pulls_11 hl (by decide) rfl (fun ls hl => ?_)
  exact B13 FU _ h _ _ _ hP hD hS (lv_sub hl [2, 3, 4, 1, 0] rfl)
theorem dX6_cancels_0 : decode cX6_cancels 0 = .ok (.aload_n 0, 1) := by decide +kernel
theorem dX6_cancels_1 : decode cX6_cancels 1 = .ok (.getfield 7, 3) := by decide +kernel
theorem dX6_cancels_4 : decode cX6_cancels 4 = .ok (.sipush 557, 3) := by decide +kernel
theorem dX6_cancels_7 : decode cX6_cancels 7 = .ok (.iaload, 1) := by decide +kernel
theorem dX6_cancels_8 : decode cX6_cancels 8 = .ok (.iconst 1, 1) := by decide +kernel
theorem dX6_cancels_9 : decode cX6_cancels 9 = .ok (.isub, 1) := by decide +kernel
theorem dX6_cancels_10 : decode cX6_cancels 10 = .ok (.istore_n 2, 1) := by decide +kernel
theorem dX6_cancels_11 : decode cX6_cancels 11 = .ok (.iload_n 2, 1) := by decide +kernel
theorem dX6_cancels_12 : decode cX6_cancels 12 = .ok (.ifCond .lt 35, 3) := by decide +kernel
theorem dX6_cancels_15 : decode cX6_cancels 15 = .ok (.aload_n 0, 1) := by decide +kernel
theorem dX6_cancels_16 : decode cX6_cancels 16 = .ok (.getfield 7, 3) := by decide +kernel
theorem dX6_cancels_19 : decode cX6_cancels 19 = .ok (.sipush 558, 3) := by decide +kernel
theorem dX6_cancels_22 : decode cX6_cancels 22 = .ok (.iload_n 2, 1) := by decide +kernel
theorem dX6_cancels_23 : decode cX6_cancels 23 = .ok (.iadd, 1) := by decide +kernel
theorem dX6_cancels_24 : decode cX6_cancels 24 = .ok (.iaload, 1) := by decide +kernel
theorem dX6_cancels_25 : decode cX6_cancels 25 = .ok (.iload_n 1, 1) := by decide +kernel
theorem dX6_cancels_26 : decode cX6_cancels 26 = .ok (.if_icmp .ne 15, 3) := by decide +kernel
theorem dX6_cancels_29 : decode cX6_cancels 29 = .ok (.aload_n 0, 1) := by decide +kernel
theorem dX6_cancels_30 : decode cX6_cancels 30 = .ok (.sipush 557, 3) := by decide +kernel
theorem dX6_cancels_33 : decode cX6_cancels 33 = .ok (.sipush 558, 3) := by decide +kernel
theorem dX6_cancels_36 : decode cX6_cancels 36 = .ok (.iload_n 2, 1) := by decide +kernel
theorem dX6_cancels_37 : decode cX6_cancels 37 = .ok (.invokevirtual 96, 3) := by decide +kernel
theorem dX6_cancels_40 : decode cX6_cancels 40 = .ok (.pop, 1) := by decide +kernel
theorem dX6_cancels_41 : decode cX6_cancels 41 = .ok (.iinc 2 (-1), 3) := by decide +kernel
theorem dX6_cancels_44 : decode cX6_cancels 44 = .ok (.goto (-33), 3) := by decide +kernel
theorem dX6_cancels_47 : decode cX6_cancels 47 = .ok (.aload_n 0, 1) := by decide +kernel
theorem dX6_cancels_48 : decode cX6_cancels 48 = .ok (.getfield 7, 3) := by decide +kernel
theorem dX6_cancels_51 : decode cX6_cancels 51 = .ok (.sipush 574, 3) := by decide +kernel
theorem dX6_cancels_54 : decode cX6_cancels 54 = .ok (.iaload, 1) := by decide +kernel
theorem dX6_cancels_55 : decode cX6_cancels 55 = .ok (.iconst 1, 1) := by decide +kernel
theorem dX6_cancels_56 : decode cX6_cancels 56 = .ok (.isub, 1) := by decide +kernel
theorem dX6_cancels_57 : decode cX6_cancels 57 = .ok (.istore_n 2, 1) := by decide +kernel
theorem dX6_cancels_58 : decode cX6_cancels 58 = .ok (.iload_n 2, 1) := by decide +kernel
theorem dX6_cancels_59 : decode cX6_cancels 59 = .ok (.ifCond .lt 35, 3) := by decide +kernel
theorem dX6_cancels_62 : decode cX6_cancels 62 = .ok (.aload_n 0, 1) := by decide +kernel
theorem dX6_cancels_63 : decode cX6_cancels 63 = .ok (.getfield 7, 3) := by decide +kernel
theorem dX6_cancels_66 : decode cX6_cancels 66 = .ok (.sipush 575, 3) := by decide +kernel
theorem dX6_cancels_69 : decode cX6_cancels 69 = .ok (.iload_n 2, 1) := by decide +kernel
theorem dX6_cancels_70 : decode cX6_cancels 70 = .ok (.iadd, 1) := by decide +kernel
theorem dX6_cancels_71 : decode cX6_cancels 71 = .ok (.iaload, 1) := by decide +kernel
theorem dX6_cancels_72 : decode cX6_cancels 72 = .ok (.iload_n 1, 1) := by decide +kernel
theorem dX6_cancels_73 : decode cX6_cancels 73 = .ok (.if_icmp .ne 15, 3) := by decide +kernel
theorem dX6_cancels_76 : decode cX6_cancels 76 = .ok (.aload_n 0, 1) := by decide +kernel
theorem dX6_cancels_77 : decode cX6_cancels 77 = .ok (.sipush 574, 3) := by decide +kernel
theorem dX6_cancels_80 : decode cX6_cancels 80 = .ok (.sipush 575, 3) := by decide +kernel
theorem dX6_cancels_83 : decode cX6_cancels 83 = .ok (.iload_n 2, 1) := by decide +kernel
theorem dX6_cancels_84 : decode cX6_cancels 84 = .ok (.invokevirtual 96, 3) := by decide +kernel
theorem dX6_cancels_87 : decode cX6_cancels 87 = .ok (.pop, 1) := by decide +kernel
theorem dX6_cancels_88 : decode cX6_cancels 88 = .ok (.iinc 2 (-1), 3) := by decide +kernel
theorem dX6_cancels_91 : decode cX6_cancels 91 = .ok (.goto (-33), 3) := by decide +kernel
theorem dX6_cancels_94 : decode cX6_cancels 94 = .ok (.iconst 0, 1) := by decide +kernel
theorem dX6_cancels_95 : decode cX6_cancels 95 = .ok (.istore_n 2, 1) := by decide +kernel
theorem dX6_cancels_96 : decode cX6_cancels 96 = .ok (.iload_n 2, 1) := by decide +kernel
theorem dX6_cancels_97 : decode cX6_cancels 97 = .ok (.iconst 4, 1) := by decide +kernel
theorem dX6_cancels_98 : decode cX6_cancels 98 = .ok (.if_icmp .ge 87, 3) := by decide +kernel
theorem dX6_cancels_101 : decode cX6_cancels 101 = .ok (.aload_n 0, 1) := by decide +kernel
theorem dX6_cancels_102 : decode cX6_cancels 102 = .ok (.getfield 7, 3) := by decide +kernel
theorem dX6_cancels_105 : decode cX6_cancels 105 = .ok (.sipush 591, 3) := by decide +kernel
theorem dX6_cancels_108 : decode cX6_cancels 108 = .ok (.iload_n 2, 1) := by decide +kernel
theorem dX6_cancels_109 : decode cX6_cancels 109 = .ok (.iadd, 1) := by decide +kernel
theorem dX6_cancels_110 : decode cX6_cancels 110 = .ok (.aload_n 0, 1) := by decide +kernel
theorem dX6_cancels_111 : decode cX6_cancels 111 = .ok (.getfield 7, 3) := by decide +kernel
theorem dX6_cancels_114 : decode cX6_cancels 114 = .ok (.sipush 591, 3) := by decide +kernel
theorem dX6_cancels_117 : decode cX6_cancels 117 = .ok (.iload_n 2, 1) := by decide +kernel
theorem dX6_cancels_118 : decode cX6_cancels 118 = .ok (.iadd, 1) := by decide +kernel
theorem dX6_cancels_119 : decode cX6_cancels 119 = .ok (.iaload, 1) := by decide +kernel
theorem dX6_cancels_120 : decode cX6_cancels 120 = .ok (.iload_n 1, 1) := by decide +kernel
theorem dX6_cancels_121 : decode cX6_cancels 121 = .ok (.if_icmp .ne 8, 3) := by decide +kernel
theorem dX6_cancels_124 : decode cX6_cancels 124 = .ok (.bipush (-9), 2) := by decide +kernel
theorem dX6_cancels_126 : decode cX6_cancels 126 = .ok (.goto 13, 3) := by decide +kernel
theorem dX6_cancels_129 : decode cX6_cancels 129 = .ok (.aload_n 0, 1) := by decide +kernel
theorem dX6_cancels_130 : decode cX6_cancels 130 = .ok (.getfield 7, 3) := by decide +kernel
theorem dX6_cancels_133 : decode cX6_cancels 133 = .ok (.sipush 591, 3) := by decide +kernel
theorem dX6_cancels_136 : decode cX6_cancels 136 = .ok (.iload_n 2, 1) := by decide +kernel
theorem dX6_cancels_137 : decode cX6_cancels 137 = .ok (.iadd, 1) := by decide +kernel
theorem dX6_cancels_138 : decode cX6_cancels 138 = .ok (.iaload, 1) := by decide +kernel
theorem dX6_cancels_139 : decode cX6_cancels 139 = .ok (.iastore, 1) := by decide +kernel
theorem dX6_cancels_140 : decode cX6_cancels 140 = .ok (.aload_n 0, 1) := by decide +kernel
theorem dX6_cancels_141 : decode cX6_cancels 141 = .ok (.getfield 7, 3) := by decide +kernel
theorem dX6_cancels_144 : decode cX6_cancels 144 = .ok (.sipush 595, 3) := by decide +kernel
theorem dX6_cancels_147 : decode cX6_cancels 147 = .ok (.iload_n 2, 1) := by decide +kernel
theorem dX6_cancels_148 : decode cX6_cancels 148 = .ok (.iadd, 1) := by decide +kernel
theorem dX6_cancels_149 : decode cX6_cancels 149 = .ok (.aload_n 0, 1) := by decide +kernel
theorem dX6_cancels_150 : decode cX6_cancels 150 = .ok (.getfield 7, 3) := by decide +kernel
theorem dX6_cancels_153 : decode cX6_cancels 153 = .ok (.sipush 595, 3) := by decide +kernel
theorem dX6_cancels_156 : decode cX6_cancels 156 = .ok (.iload_n 2, 1) := by decide +kernel
theorem dX6_cancels_157 : decode cX6_cancels 157 = .ok (.iadd, 1) := by decide +kernel
theorem dX6_cancels_158 : decode cX6_cancels 158 = .ok (.iaload, 1) := by decide +kernel
theorem dX6_cancels_159 : decode cX6_cancels 159 = .ok (.iload_n 1, 1) := by decide +kernel
theorem dX6_cancels_160 : decode cX6_cancels 160 = .ok (.if_icmp .ne 8, 3) := by decide +kernel
theorem dX6_cancels_163 : decode cX6_cancels 163 = .ok (.bipush (-9), 2) := by decide +kernel
theorem dX6_cancels_165 : decode cX6_cancels 165 = .ok (.goto 13, 3) := by decide +kernel
theorem dX6_cancels_168 : decode cX6_cancels 168 = .ok (.aload_n 0, 1) := by decide +kernel
theorem dX6_cancels_169 : decode cX6_cancels 169 = .ok (.getfield 7, 3) := by decide +kernel
theorem dX6_cancels_172 : decode cX6_cancels 172 = .ok (.sipush 595, 3) := by decide +kernel
theorem dX6_cancels_175 : decode cX6_cancels 175 = .ok (.iload_n 2, 1) := by decide +kernel
theorem dX6_cancels_176 : decode cX6_cancels 176 = .ok (.iadd, 1) := by decide +kernel
theorem dX6_cancels_177 : decode cX6_cancels 177 = .ok (.iaload, 1) := by decide +kernel
theorem dX6_cancels_178 : decode cX6_cancels 178 = .ok (.iastore, 1) := by decide +kernel
theorem dX6_cancels_179 : decode cX6_cancels 179 = .ok (.iinc 2 1, 3) := by decide +kernel
theorem dX6_cancels_182 : decode cX6_cancels 182 = .ok (.goto (-86), 3) := by decide +kernel
theorem dX6_cancels_185 : decode cX6_cancels 185 = .ok (.aload_n 0, 1) := by decide +kernel
theorem dX6_cancels_186 : decode cX6_cancels 186 = .ok (.iload_n 1, 1) := by decide +kernel
theorem dX6_cancels_187 : decode cX6_cancels 187 = .ok (.iconst 0, 1) := by decide +kernel
theorem dX6_cancels_188 : decode cX6_cancels 188 = .ok (.invokevirtual 80, 3) := by decide +kernel
theorem dX6_cancels_191 : decode cX6_cancels 191 = .ok (.return_, 1) := by decide +kernel
def bfX6_cancels_178 (p1 : Int32) (K96 : Int32 × (MS) → Option (MS)) (x2 : Int32) (s1 : Int32) (s2 : Int32) (S : MS) : Option (MS) :=
  (if okI s1 5130 then nm (upd S.1 (s1).toNatClampNeg s2, S.2) fun S8 => K96 ((x2 + (1 : Int32)), S8) else none)
def bfX6_cancels_139 (p1 : Int32) (K96 : Int32 × (MS) → Option (MS)) (x2 : Int32) (s1 : Int32) (s2 : Int32) (S : MS) : Option (MS) :=
  (if okI s1 5130 then nm (upd S.1 (s1).toNatClampNeg s2, S.2) fun S9 => (if okI ((595 : Int32) + x2) 5130 then (if (S9.1 (((595 : Int32) + x2)).toNatClampNeg) = p1 then bfX6_cancels_178 p1 K96 x2 (((595 : Int32) + x2)) ((-9 : Int32)) S9 else (if okI ((595 : Int32) + x2) 5130 then bfX6_cancels_178 p1 K96 x2 (((595 : Int32) + x2)) ((S9.1 (((595 : Int32) + x2)).toNatClampNeg)) S9 else none)) else none) else none)
def bfX6_cancels_96 (p1 : Int32) (K96 : Int32 × (MS) → Option (MS)) (x : Int32 × (MS)) : Option (MS) :=
  match x with
  | (x2, S) => (if (4 : Int32) ≤ x2 then ob (fX6_leaves p1 (0 : Int32) S) fun u10 => some u10 else (if okI ((591 : Int32) + x2) 5130 then (if (S.1 (((591 : Int32) + x2)).toNatClampNeg) = p1 then bfX6_cancels_139 p1 K96 x2 (((591 : Int32) + x2)) ((-9 : Int32)) S else (if okI ((591 : Int32) + x2) 5130 then bfX6_cancels_139 p1 K96 x2 (((591 : Int32) + x2)) ((S.1 (((591 : Int32) + x2)).toNatClampNeg)) S else none)) else none))
def bfX6_cancels_88 (p1 : Int32) (K58 : Int32 × (MS) → Option (MS)) (x2 : Int32) (S : MS) : Option (MS) :=
  K58 ((x2 + (-1 : Int32)), S)
def bfX6_cancels_58 (p1 : Int32) (K58 : Int32 × (MS) → Option (MS)) (x : Int32 × (MS)) : Option (MS) :=
  match x with
  | (x2, S) => (if x2 < 0 then iter (bfX6_cancels_96 p1) FU ((0 : Int32), S) else (if okI ((575 : Int32) + x2) 5130 then (if (S.1 (((575 : Int32) + x2)).toNatClampNeg) = p1 then ob (fX6_pulls (574 : Int32) (575 : Int32) x2 S) fun u11 => bfX6_cancels_88 p1 K58 x2 u11.2 else bfX6_cancels_88 p1 K58 x2 S) else none))
def bfX6_cancels_41 (p1 : Int32) (K11 : Int32 × (MS) → Option (MS)) (x2 : Int32) (S : MS) : Option (MS) :=
  K11 ((x2 + (-1 : Int32)), S)
def bfX6_cancels_11 (p1 : Int32) (K11 : Int32 × (MS) → Option (MS)) (x : Int32 × (MS)) : Option (MS) :=
  match x with
  | (x2, S) => (if x2 < 0 then nm (((S.1 ((574 : Int32)).toNatClampNeg) - (1 : Int32))) fun v12 => iter (bfX6_cancels_58 p1) FU (v12, S) else (if okI ((558 : Int32) + x2) 5130 then (if (S.1 (((558 : Int32) + x2)).toNatClampNeg) = p1 then ob (fX6_pulls (557 : Int32) (558 : Int32) x2 S) fun u13 => bfX6_cancels_41 p1 K11 x2 u13.2 else bfX6_cancels_41 p1 K11 x2 S) else none))
def fX6_cancels (p1 : Int32) (S : MS) : Option (MS) :=
  nm (((S.1 ((557 : Int32)).toNatClampNeg) - (1 : Int32))) fun v14 => iter (bfX6_cancels_11 p1) FU (v14, S)
set_option maxHeartbeats 4000000 in
set_option maxRecDepth 100000 in
theorem kX6_cancels (l : Launch) (D : va_G) (cI cS : ClassId) (aM : Nat → Nat) (p1 : Int32) (S : MS) {q : MS} (h : fX6_cancels p1 S = some q) : Mc l D (tyL cI cS) false yX6_cancels cX6_cancels 3 none 3 [.ref (aM 0), .int p1] (wM cI aM S) none (wM cI aM q) := by
  refine Mc_of RX6 (by decide +kernel) rfl wc_X6_cancels (Nat.le_of_ble_eq_true rfl) ?_
  intro p e s m args below meth c A Q ls C hA hz hP hD hS hl RET
  have RETh : ∀ {pc : Nat} {ls : Array Slot} {H : Heap} {locs : List Loc} {S1 : MS}, decode cX6_cancels pc = .ok (.return_, 1) → some S1 = some q → va_P D vwCl (wM cI aM S1) H → va_D A (wM cI aM S1) → va_S A s.heap H locs → W p l e (rmL 3) s m args below meth c H locs 0 0 Q (F0 m pc ls []) := by
    intro pc ls H locs S1 hd h hP hD hS; cases h; exact RET (x_vret C hd) hP hD hS
  have B178 : ∀ (K96 : Int32 × (MS) → Option (MS)) (ih96 : ∀ x, K96 x = some q → (match x with | (x2, S) => ∀ (H : Heap) (locs : List Loc) (ls : Array Slot), va_P D vwCl (wM cI aM S) H → va_D A (wM cI aM S) → va_S A s.heap H locs → lv_has ls 3 [(0, .ref (aM 0)), (1, .int p1), (2, .int x2)] → W p l e (rmL 3) s m args below meth c H locs 0 0 Q (F0 m 96 ls []))) (x2 : Int32) (s1 : Int32) (s2 : Int32) (S : MS), bfX6_cancels_178 p1 K96 x2 s1 s2 S = some q → ∀ (H : Heap) (locs : List Loc) (ls : Array Slot), va_P D vwCl (wM cI aM S) H → va_D A (wM cI aM S) → va_S A s.heap H locs → lv_has ls 3 [(0, .ref (aM 0)), (1, .int p1), (2, .int x2)] → W p l e (rmL 3) s m args below meth c H locs 0 0 Q (F0 m 178 ls [.int s2, .int s1, .ref (aM 1)]) := by
    intro K96 ih96 x2 s1 s2 S h H locs ls hP hD hS hl
    refine x_iastM (wM cI aM) C h hP hD hS 1 rfl (t0 := 0) rfl rfl dX6_cancels_178 (fun S8 h H locs hP hD hS => ?_)
    refine x_iinc (v := (x2 + (1 : Int32))) (lv' := [(2, .int (x2 + (1 : Int32))), (0, .ref (aM 0)), (1, .int p1)]) C dX6_cancels_179 hl (k := 2) rfl rfl (by decide) rfl (fun ls hl => ?_)
    refine x_goto (tgt := 96) C dX6_cancels_182 (by decide) ?_
    exact ih96 _ h _ _ _ hP hD hS (lv_sub hl [1, 2, 0] rfl)
  have B139 : ∀ (K96 : Int32 × (MS) → Option (MS)) (ih96 : ∀ x, K96 x = some q → (match x with | (x2, S) => ∀ (H : Heap) (locs : List Loc) (ls : Array Slot), va_P D vwCl (wM cI aM S) H → va_D A (wM cI aM S) → va_S A s.heap H locs → lv_has ls 3 [(0, .ref (aM 0)), (1, .int p1), (2, .int x2)] → W p l e (rmL 3) s m args below meth c H locs 0 0 Q (F0 m 96 ls []))) (x2 : Int32) (s1 : Int32) (s2 : Int32) (S : MS), bfX6_cancels_139 p1 K96 x2 s1 s2 S = some q → ∀ (H : Heap) (locs : List Loc) (ls : Array Slot), va_P D vwCl (wM cI aM S) H → va_D A (wM cI aM S) → va_S A s.heap H locs → lv_has ls 3 [(0, .ref (aM 0)), (1, .int p1), (2, .int x2)] → W p l e (rmL 3) s m args below meth c H locs 0 0 Q (F0 m 139 ls [.int s2, .int s1, .ref (aM 1)]) := by
    intro K96 ih96 x2 s1 s2 S h H locs ls hP hD hS hl
    refine x_iastM (wM cI aM) C h hP hD hS 1 rfl (t0 := 0) rfl rfl dX6_cancels_139 (fun S9 h H locs hP hD hS => ?_)
    refine x_aload_n C dX6_cancels_140 rfl hl 0 rfl ?_
    refine x_get C inX6 hP 0 rfl rfl 0 (by decide) wf_X6_7 rfl dX6_cancels_141 ?_
    refine x_sipush (v := (595 : Int32)) C dX6_cancels_144 (by decide) ?_
    refine x_iload_n C dX6_cancels_147 rfl hl 2 rfl ?_
    refine x_iadd C dX6_cancels_148 ?_
    refine x_aload_n C dX6_cancels_149 rfl hl 0 rfl ?_
    refine x_get C inX6 hP 0 rfl rfl 0 (by decide) wf_X6_7 rfl dX6_cancels_150 ?_
    refine x_sipush (v := (595 : Int32)) C dX6_cancels_153 (by decide) ?_
    refine x_iload_n C dX6_cancels_156 rfl hl 2 rfl ?_
    refine x_iadd C dX6_cancels_157 ?_
    refine x_iald C h hP 1 rfl (t0 := 0) rfl dX6_cancels_158 (fun h => ?_)
    refine x_iload_n C dX6_cancels_159 rfl hl 1 rfl ?_
    refine x_icmp_ne (tgt := 168) C h dX6_cancels_160 (by decide) (fun h => ?_) (fun h => ?_)
    · refine x_aload_n C dX6_cancels_168 rfl hl 0 rfl ?_
      refine x_get C inX6 hP 0 rfl rfl 0 (by decide) wf_X6_7 rfl dX6_cancels_169 ?_
      refine x_sipush (v := (595 : Int32)) C dX6_cancels_172 (by decide) ?_
      refine x_iload_n C dX6_cancels_175 rfl hl 2 rfl ?_
      refine x_iadd C dX6_cancels_176 ?_
      refine x_iald C h hP 1 rfl (t0 := 0) rfl dX6_cancels_177 (fun h => ?_)
      exact B178 K96 ih96 _ _ _ _ h _ _ _ hP hD hS hl
    · refine x_bipush (v := (-9 : Int32)) C dX6_cancels_163 (by decide) ?_
      refine x_goto (tgt := 178) C dX6_cancels_165 (by decide) ?_
      exact B178 K96 ih96 _ _ _ _ h _ _ _ hP hD hS hl
  have B96 : ∀ (n : Nat) (x : Int32 × (MS)), iter (bfX6_cancels_96 p1) n x = some q → (match x with | (x2, S) => ∀ (H : Heap) (locs : List Loc) (ls : Array Slot), va_P D vwCl (wM cI aM S) H → va_D A (wM cI aM S) → va_S A s.heap H locs → lv_has ls 3 [(0, .ref (aM 0)), (1, .int p1), (2, .int x2)] → W p l e (rmL 3) s m args below meth c H locs 0 0 Q (F0 m 96 ls [])) := by
    refine iter_ind (fun x : Int32 × (MS) => (match x with | (x2, S) => ∀ (H : Heap) (locs : List Loc) (ls : Array Slot), va_P D vwCl (wM cI aM S) H → va_D A (wM cI aM S) → va_S A s.heap H locs → lv_has ls 3 [(0, .ref (aM 0)), (1, .int p1), (2, .int x2)] → W p l e (rmL 3) s m args below meth c H locs 0 0 Q (F0 m 96 ls []))) ?_
    intro K96 ih96 x h
    obtain ⟨x2, S⟩ := x
    intro H locs ls hP hD hS hl
    refine x_iload_n C dX6_cancels_96 rfl hl 2 rfl ?_
    refine x_iconst (v := (4 : Int32)) C dX6_cancels_97 (by decide) ?_
    refine x_icmp_ge (tgt := 185) C h dX6_cancels_98 (by decide) (fun h => ?_) (fun h => ?_)
    · refine x_aload_n C dX6_cancels_185 rfl hl 0 rfl ?_
      refine x_iload_n C dX6_cancels_186 rfl hl 1 rfl ?_
      refine x_iconst (v := (0 : Int32)) C dX6_cancels_187 (by decide) ?_
      obtain ⟨u10, hu10, h⟩ := ob_some h
      refine x_callV (As := [.int _, .int _]) (n := 2) C (kX6_leaves l D cI cS aM _ _ _ hu10) (fun hh => nomatch hh) wm_X6_80 wi_X6_leaves we_X6_leaves wz_X6 wc_X6_leaves (by decide +kernel) rfl hP hD hS hA 0 3 rfl rfl rfl hl.1 dX6_cancels_188 rfl (Nat.le_of_ble_eq_true rfl) ⟨Nat.le_of_ble_eq_true rfl, Nat.le_of_ble_eq_true rfl⟩ ⟨Nat.zero_le _, Nat.zero_le _⟩ (fun H locs hP hD hS => ?_)
      exact RETh dX6_cancels_191 h hP hD hS
    · refine x_aload_n C dX6_cancels_101 rfl hl 0 rfl ?_
      refine x_get C inX6 hP 0 rfl rfl 0 (by decide) wf_X6_7 rfl dX6_cancels_102 ?_
      refine x_sipush (v := (591 : Int32)) C dX6_cancels_105 (by decide) ?_
      refine x_iload_n C dX6_cancels_108 rfl hl 2 rfl ?_
      refine x_iadd C dX6_cancels_109 ?_
      refine x_aload_n C dX6_cancels_110 rfl hl 0 rfl ?_
      refine x_get C inX6 hP 0 rfl rfl 0 (by decide) wf_X6_7 rfl dX6_cancels_111 ?_
      refine x_sipush (v := (591 : Int32)) C dX6_cancels_114 (by decide) ?_
      refine x_iload_n C dX6_cancels_117 rfl hl 2 rfl ?_
      refine x_iadd C dX6_cancels_118 ?_
      refine x_iald C h hP 1 rfl (t0 := 0) rfl dX6_cancels_119 (fun h => ?_)
      refine x_iload_n C dX6_cancels_120 rfl hl 1 rfl ?_
      refine x_icmp_ne (tgt := 129) C h dX6_cancels_121 (by decide) (fun h => ?_) (fun h => ?_)
      · refine x_aload_n C dX6_cancels_129 rfl hl 0 rfl ?_
        refine x_get C inX6 hP 0 rfl rfl 0 (by decide) wf_X6_7 rfl dX6_cancels_130 ?_
        refine x_sipush (v := (591 : Int32)) C dX6_cancels_133 (by decide) ?_
        refine x_iload_n C dX6_cancels_136 rfl hl 2 rfl ?_
        refine x_iadd C dX6_cancels_137 ?_
        refine x_iald C h hP 1 rfl (t0 := 0) rfl dX6_cancels_138 (fun h => ?_)
        exact B139 K96 ih96 _ _ _ _ h _ _ _ hP hD hS hl
      · refine x_bipush (v := (-9 : Int32)) C dX6_cancels_124 (by decide) ?_
        refine x_goto (tgt := 139) C dX6_cancels_126 (by decide) ?_
        exact B139 K96 ih96 _ _ _ _ h _ _ _ hP hD hS hl
  have B88 : ∀ (K58 : Int32 × (MS) → Option (MS)) (ih58 : ∀ x, K58 x = some q → (match x with | (x2, S) => ∀ (H : Heap) (locs : List Loc) (ls : Array Slot), va_P D vwCl (wM cI aM S) H → va_D A (wM cI aM S) → va_S A s.heap H locs → lv_has ls 3 [(0, .ref (aM 0)), (1, .int p1), (2, .int x2)] → W p l e (rmL 3) s m args below meth c H locs 0 0 Q (F0 m 58 ls []))) (x2 : Int32) (S : MS), bfX6_cancels_88 p1 K58 x2 S = some q → ∀ (H : Heap) (locs : List Loc) (ls : Array Slot), va_P D vwCl (wM cI aM S) H → va_D A (wM cI aM S) → va_S A s.heap H locs → lv_has ls 3 [(0, .ref (aM 0)), (1, .int p1), (2, .int x2)] → W p l e (rmL 3) s m args below meth c H locs 0 0 Q (F0 m 88 ls []) := by
    intro K58 ih58 x2 S h H locs ls hP hD hS hl
    refine x_iinc (v := (x2 + (-1 : Int32))) (lv' := [(2, .int (x2 + (-1 : Int32))), (0, .ref (aM 0)), (1, .int p1)]) C dX6_cancels_88 hl (k := 2) rfl rfl (by decide) rfl (fun ls hl => ?_)
    refine x_goto (tgt := 58) C dX6_cancels_91 (by decide) ?_
    exact ih58 _ h _ _ _ hP hD hS (lv_sub hl [1, 2, 0] rfl)
  have B58 : ∀ (n : Nat) (x : Int32 × (MS)), iter (bfX6_cancels_58 p1) n x = some q → (match x with | (x2, S) => ∀ (H : Heap) (locs : List Loc) (ls : Array Slot), va_P D vwCl (wM cI aM S) H → va_D A (wM cI aM S) → va_S A s.heap H locs → lv_has ls 3 [(0, .ref (aM 0)), (1, .int p1), (2, .int x2)] → W p l e (rmL 3) s m args below meth c H locs 0 0 Q (F0 m 58 ls [])) := by
    refine iter_ind (fun x : Int32 × (MS) => (match x with | (x2, S) => ∀ (H : Heap) (locs : List Loc) (ls : Array Slot), va_P D vwCl (wM cI aM S) H → va_D A (wM cI aM S) → va_S A s.heap H locs → lv_has ls 3 [(0, .ref (aM 0)), (1, .int p1), (2, .int x2)] → W p l e (rmL 3) s m args below meth c H locs 0 0 Q (F0 m 58 ls []))) ?_
    intro K58 ih58 x h
    obtain ⟨x2, S⟩ := x
    intro H locs ls hP hD hS hl
    refine x_iload_n C dX6_cancels_58 rfl hl 2 rfl ?_
    refine x_if_lt (tgt := 94) C h dX6_cancels_59 (by decide) (fun h => ?_) (fun h => ?_)
    · refine x_iconst (v := (0 : Int32)) C dX6_cancels_94 (by decide) ?_
      refine x_istore_n (lv' := [(2, .int (0 : Int32)), (0, .ref (aM 0)), (1, .int p1)]) C dX6_cancels_95 rfl hl (by decide) rfl (fun ls hl => ?_)
      exact B96 FU _ h _ _ _ hP hD hS (lv_sub hl [1, 2, 0] rfl)
    · refine x_aload_n C dX6_cancels_62 rfl hl 0 rfl ?_
      refine x_get C inX6 hP 0 rfl rfl 0 (by decide) wf_X6_7 rfl dX6_cancels_63 ?_
      refine x_sipush (v := (575 : Int32)) C dX6_cancels_66 (by decide) ?_
      refine x_iload_n C dX6_cancels_69 rfl hl 2 rfl ?_
      refine x_iadd C dX6_cancels_70 ?_
      refine x_iald C h hP 1 rfl (t0 := 0) rfl dX6_cancels_71 (fun h => ?_)
      refine x_iload_n C dX6_cancels_72 rfl hl 1 rfl ?_
      refine x_icmp_ne (tgt := 88) C h dX6_cancels_73 (by decide) (fun h => ?_) (fun h => ?_)
      · exact B88 K58 ih58 _ _ h _ _ _ hP hD hS hl
      · refine x_aload_n C dX6_cancels_76 rfl hl 0 rfl ?_
        refine x_sipush (v := (574 : Int32)) C dX6_cancels_77 (by decide) ?_
        refine x_sipush (v := (575 : Int32)) C dX6_cancels_80 (by decide) ?_
        refine x_iload_n C dX6_cancels_83 rfl hl 2 rfl ?_
        obtain ⟨u11, hu11, h⟩ := ob_some h
        refine x_callV (As := [.int _, .int _, .int _]) (n := 3) C (kX6_pulls l D cI cS aM _ _ _ _ hu11) (fun hh => nomatch hh) wm_X6_96 wi_X6_pulls we_X6_pulls wz_X6 wc_X6_pulls (by decide +kernel) rfl hP hD hS hA 0 3 rfl rfl rfl hl.1 dX6_cancels_84 rfl (Nat.le_of_ble_eq_true rfl) ⟨Nat.le_of_ble_eq_true rfl, Nat.le_of_ble_eq_true rfl⟩ ⟨Nat.zero_le _, Nat.zero_le _⟩ (fun H locs hP hD hS => ?_)
        refine x_pop C dX6_cancels_87 rfl ?_
        exact B88 K58 ih58 _ _ h _ _ _ hP hD hS hl
  have B41 : ∀ (K11 : Int32 × (MS) → Option (MS)) (ih11 : ∀ x, K11 x = some q → (match x with | (x2, S) => ∀ (H : Heap) (locs : List Loc) (ls : Array Slot), va_P D vwCl (wM cI aM S) H → va_D A (wM cI aM S) → va_S A s.heap H locs → lv_has ls 3 [(0, .ref (aM 0)), (1, .int p1), (2, .int x2)] → W p l e (rmL 3) s m args below meth c H locs 0 0 Q (F0 m 11 ls []))) (x2 : Int32) (S : MS), bfX6_cancels_41 p1 K11 x2 S = some q → ∀ (H : Heap) (locs : List Loc) (ls : Array Slot), va_P D vwCl (wM cI aM S) H → va_D A (wM cI aM S) → va_S A s.heap H locs → lv_has ls 3 [(0, .ref (aM 0)), (1, .int p1), (2, .int x2)] → W p l e (rmL 3) s m args below meth c H locs 0 0 Q (F0 m 41 ls []) := by
    intro K11 ih11 x2 S h H locs ls hP hD hS hl
    refine x_iinc (v := (x2 + (-1 : Int32))) (lv' := [(2, .int (x2 + (-1 : Int32))), (0, .ref (aM 0)), (1, .int p1)]) C dX6_cancels_41 hl (k := 2) rfl rfl (by decide) rfl (fun ls hl => ?_)
    refine x_goto (tgt := 11) C dX6_cancels_44 (by decide) ?_
    exact ih11 _ h _ _ _ hP hD hS (lv_sub hl [1, 2, 0] rfl)
  have B11 : ∀ (n : Nat) (x : Int32 × (MS)), iter (bfX6_cancels_11 p1) n x = some q → (match x with | (x2, S) => ∀ (H : Heap) (locs : List Loc) (ls : Array Slot), va_P D vwCl (wM cI aM S) H → va_D A (wM cI aM S) → va_S A s.heap H locs → lv_has ls 3 [(0, .ref (aM 0)), (1, .int p1), (2, .int x2)] → W p l e (rmL 3) s m args below meth c H locs 0 0 Q (F0 m 11 ls [])) := by
    refine iter_ind (fun x : Int32 × (MS) => (match x with | (x2, S) => ∀ (H : Heap) (locs : List Loc) (ls : Array Slot), va_P D vwCl (wM cI aM S) H → va_D A (wM cI aM S) → va_S A s.heap H locs → lv_has ls 3 [(0, .ref (aM 0)), (1, .int p1), (2, .int x2)] → W p l e (rmL 3) s m args below meth c H locs 0 0 Q (F0 m 11 ls []))) ?_
    intro K11 ih11 x h
    obtain ⟨x2, S⟩ := x
    intro H locs ls hP hD hS hl
    refine x_iload_n C dX6_cancels_11 rfl hl 2 rfl ?_
    refine x_if_lt (tgt := 47) C h dX6_cancels_12 (by decide) (fun h => ?_) (fun h => ?_)
    · refine x_aload_n C dX6_cancels_47 rfl hl 0 rfl ?_
      refine x_get C inX6 hP 0 rfl rfl 0 (by decide) wf_X6_7 rfl dX6_cancels_48 ?_
      refine x_sipush (v := (574 : Int32)) C dX6_cancels_51 (by decide) ?_
      refine x_ialdK C (by decide) hP 1 rfl (t0 := 0) rfl dX6_cancels_54 ?_
      refine x_iconst (v := (1 : Int32)) C dX6_cancels_55 (by decide) ?_
      refine x_isub C dX6_cancels_56 ?_
      refine x_nmi h (fun v12 h => ?_)
      refine x_istore_n (lv' := [(2, .int v12), (0, .ref (aM 0)), (1, .int p1)]) C dX6_cancels_57 rfl hl (by decide) rfl (fun ls hl => ?_)
      exact B58 FU _ h _ _ _ hP hD hS (lv_sub hl [1, 2, 0] rfl)
    · refine x_aload_n C dX6_cancels_15 rfl hl 0 rfl ?_
      refine x_get C inX6 hP 0 rfl rfl 0 (by decide) wf_X6_7 rfl dX6_cancels_16 ?_
      refine x_sipush (v := (558 : Int32)) C dX6_cancels_19 (by decide) ?_
      refine x_iload_n C dX6_cancels_22 rfl hl 2 rfl ?_
      refine x_iadd C dX6_cancels_23 ?_
      refine x_iald C h hP 1 rfl (t0 := 0) rfl dX6_cancels_24 (fun h => ?_)
      refine x_iload_n C dX6_cancels_25 rfl hl 1 rfl ?_
      refine x_icmp_ne (tgt := 41) C h dX6_cancels_26 (by decide) (fun h => ?_) (fun h => ?_)
      · exact B41 K11 ih11 _ _ h _ _ _ hP hD hS hl
      · refine x_aload_n C dX6_cancels_29 rfl hl 0 rfl ?_
        refine x_sipush (v := (557 : Int32)) C dX6_cancels_30 (by decide) ?_
        refine x_sipush (v := (558 : Int32)) C dX6_cancels_33 (by decide) ?_
        refine x_iload_n C dX6_cancels_36 rfl hl 2 rfl ?_
        obtain ⟨u13, hu13, h⟩ := ob_some h
        refine x_callV (As := [.int _, .int _, .int _]) (n := 3) C (kX6_pulls l D cI cS aM _ _ _ _ hu13) (fun hh => nomatch hh) wm_X6_96 wi_X6_pulls we_X6_pulls wz_X6 wc_X6_pulls (by decide +kernel) rfl hP hD hS hA 0 3 rfl rfl rfl hl.1 dX6_cancels_37 rfl (Nat.le_of_ble_eq_true rfl) ⟨Nat.le_of_ble_eq_true rfl, Nat.le_of_ble_eq_true rfl⟩ ⟨Nat.zero_le _, Nat.zero_le _⟩ (fun H locs hP hD hS => ?_)
        refine x_pop C dX6_cancels_40 rfl ?_
        exact B41 K11 ih11 _ _ h _ _ _ hP hD hS hl
  refine x_aload_n C dX6_cancels_0 rfl hl 0 rfl ?_
  refine x_get C inX6 hP 0 rfl rfl 0 (by decide) wf_X6_7 rfl dX6_cancels_1 ?_
  refine x_sipush (v := (557 : Int32)) C dX6_cancels_4 (by decide) ?_
  refine x_ialdK C (by decide) hP 1 rfl (t0 := 0) rfl dX6_cancels_7 ?_
  refine x_iconst (v := (1 : Int32)) C dX6_cancels_8 (by decide) ?_
  refine x_isub C dX6_cancels_9 ?_
  refine x_nmi h (fun v14 h => ?_)
  refine x_istore_n (lv' := [(2, .int v14), (0, .ref (aM 0)), (1, .int p1)]) C dX6_cancels_10 rfl hl (by decide) rfl (fun ls hl => ?_)
  exact B11 FU _ h _ _ _ hP hD hS (lv_sub hl [1, 2, 0] rfl)
theorem dX6_counts_0 : decode cX6_counts 0 = .ok (.aload_n 0, 1) := by decide +kernel
theorem dX6_counts_1 : decode cX6_counts 1 = .ok (.getfield 7, 3) := by decide +kernel
theorem dX6_counts_4 : decode cX6_counts 4 = .ok (.bipush 90, 2) := by decide +kernel
theorem dX6_counts_6 : decode cX6_counts 6 = .ok (.bipush 8, 2) := by decide +kernel
theorem dX6_counts_8 : decode cX6_counts 8 = .ok (.iload_n 1, 1) := by decide +kernel
theorem dX6_counts_9 : decode cX6_counts 9 = .ok (.imul, 1) := by decide +kernel
theorem dX6_counts_10 : decode cX6_counts 10 = .ok (.iadd, 1) := by decide +kernel
theorem dX6_counts_11 : decode cX6_counts 11 = .ok (.iload_n 2, 1) := by decide +kernel
theorem dX6_counts_12 : decode cX6_counts 12 = .ok (.iadd, 1) := by decide +kernel
theorem dX6_counts_13 : decode cX6_counts 13 = .ok (.dup2, 1) := by decide +kernel
theorem dX6_counts_14 : decode cX6_counts 14 = .ok (.iaload, 1) := by decide +kernel
theorem dX6_counts_15 : decode cX6_counts 15 = .ok (.iload_n 3, 1) := by decide +kernel
theorem dX6_counts_16 : decode cX6_counts 16 = .ok (.iadd, 1) := by decide +kernel
theorem dX6_counts_17 : decode cX6_counts 17 = .ok (.iastore, 1) := by decide +kernel
theorem dX6_counts_18 : decode cX6_counts 18 = .ok (.return_, 1) := by decide +kernel
def fX6_counts (p1 : Int32) (p2 : Int32) (p3 : Int32) (S : MS) : Option (MS) :=
  (if okI (((90 : Int32) + ((8 : Int32) * p1)) + p2) 5130 then (if okI (((90 : Int32) + ((8 : Int32) * p1)) + p2) 5130 then nm (upd S.1 ((((90 : Int32) + ((8 : Int32) * p1)) + p2)).toNatClampNeg ((S.1 ((((90 : Int32) + ((8 : Int32) * p1)) + p2)).toNatClampNeg) + p3), S.2) fun S2 => some S2 else none) else none)
set_option maxHeartbeats 4000000 in
set_option maxRecDepth 100000 in
theorem kX6_counts (l : Launch) (D : va_G) (cI cS : ClassId) (aM : Nat → Nat) (p1 : Int32) (p2 : Int32) (p3 : Int32) (S : MS) {q : MS} (h : fX6_counts p1 p2 p3 S = some q) : Mc l D (tyL cI cS) false yX6_counts cX6_counts 4 none 1 [.ref (aM 0), .int p1, .int p2, .int p3] (wM cI aM S) none (wM cI aM q) := by
  refine Mc_of RX6 (by decide +kernel) rfl wc_X6_counts (Nat.le_of_ble_eq_true rfl) ?_
  intro p e s m args below meth c A Q ls C hA hz hP hD hS hl RET
  have RETh : ∀ {pc : Nat} {ls : Array Slot} {H : Heap} {locs : List Loc} {S1 : MS}, decode cX6_counts pc = .ok (.return_, 1) → some S1 = some q → va_P D vwCl (wM cI aM S1) H → va_D A (wM cI aM S1) → va_S A s.heap H locs → W p l e (rmL 1) s m args below meth c H locs 0 0 Q (F0 m pc ls []) := by
    intro pc ls H locs S1 hd h hP hD hS; cases h; exact RET (x_vret C hd) hP hD hS
  refine x_aload_n C dX6_counts_0 rfl hl 0 rfl ?_
  refine x_get C inX6 hP 0 rfl rfl 0 (by decide) wf_X6_7 rfl dX6_counts_1 ?_
  refine x_bipush (v := (90 : Int32)) C dX6_counts_4 (by decide) ?_
  refine x_bipush (v := (8 : Int32)) C dX6_counts_6 (by decide) ?_
  refine x_iload_n C dX6_counts_8 rfl hl 1 rfl ?_
  refine x_imul C dX6_counts_9 ?_
  refine x_iadd C dX6_counts_10 ?_
  refine x_iload_n C dX6_counts_11 rfl hl 2 rfl ?_
  refine x_iadd C dX6_counts_12 ?_
  refine x_dup2 C dX6_counts_13 rfl rfl ?_
  refine x_iald C h hP 1 rfl (t0 := 0) rfl dX6_counts_14 (fun h => ?_)
  refine x_iload_n C dX6_counts_15 rfl hl 3 rfl ?_
  refine x_iadd C dX6_counts_16 ?_
  refine x_iastM (wM cI aM) C h hP hD hS 1 rfl (t0 := 0) rfl rfl dX6_counts_17 (fun S2 h H locs hP hD hS => ?_)
  exact RETh dX6_counts_18 h hP hD hS
theorem dX6_draws_0 : decode cX6_draws 0 = .ok (.aload_n 0, 1) := by decide +kernel
theorem dX6_draws_1 : decode cX6_draws 1 = .ok (.getfield 7, 3) := by decide +kernel
theorem dX6_draws_4 : decode cX6_draws 4 = .ok (.sipush 184, 3) := by decide +kernel
theorem dX6_draws_7 : decode cX6_draws 7 = .ok (.aload_n 0, 1) := by decide +kernel
theorem dX6_draws_8 : decode cX6_draws 8 = .ok (.getfield 7, 3) := by decide +kernel
theorem dX6_draws_11 : decode cX6_draws 11 = .ok (.sipush 184, 3) := by decide +kernel
theorem dX6_draws_14 : decode cX6_draws 14 = .ok (.iaload, 1) := by decide +kernel
theorem dX6_draws_15 : decode cX6_draws 15 = .ok (.ldc 52, 2) := by decide +kernel
theorem dX6_draws_17 : decode cX6_draws 17 = .ok (.imul, 1) := by decide +kernel
theorem dX6_draws_18 : decode cX6_draws 18 = .ok (.sipush 12345, 3) := by decide +kernel
theorem dX6_draws_21 : decode cX6_draws 21 = .ok (.iadd, 1) := by decide +kernel
theorem dX6_draws_22 : decode cX6_draws 22 = .ok (.iastore, 1) := by decide +kernel
theorem dX6_draws_23 : decode cX6_draws 23 = .ok (.aload_n 0, 1) := by decide +kernel
theorem dX6_draws_24 : decode cX6_draws 24 = .ok (.getfield 7, 3) := by decide +kernel
theorem dX6_draws_27 : decode cX6_draws 27 = .ok (.sipush 184, 3) := by decide +kernel
theorem dX6_draws_30 : decode cX6_draws 30 = .ok (.iaload, 1) := by decide +kernel
theorem dX6_draws_31 : decode cX6_draws 31 = .ok (.bipush 16, 2) := by decide +kernel
theorem dX6_draws_33 : decode cX6_draws 33 = .ok (.iushr, 1) := by decide +kernel
theorem dX6_draws_34 : decode cX6_draws 34 = .ok (.sipush 32767, 3) := by decide +kernel
theorem dX6_draws_37 : decode cX6_draws 37 = .ok (.iand, 1) := by decide +kernel
theorem dX6_draws_38 : decode cX6_draws 38 = .ok (.ireturn, 1) := by decide +kernel
def fX6_draws  (S : MS) : Option (Int32 × (MS)) :=
  nm (upd S.1 ((184 : Int32)).toNatClampNeg (((S.1 ((184 : Int32)).toNatClampNeg) * (1103515245 : Int32)) + (12345 : Int32)), S.2) fun S2 => some (((((S2.1 ((184 : Int32)).toNatClampNeg)).toUInt32 >>> (((16 : Int32)).toUInt32 &&& Int32.toUInt32 31)).toInt32 &&& (32767 : Int32)), S2)
set_option maxHeartbeats 4000000 in
set_option maxRecDepth 100000 in
theorem kX6_draws (l : Launch) (D : va_G) (cI cS : ClassId) (aM : Nat → Nat)  (S : MS) {q : Int32 × (MS)} (h : fX6_draws  S = some q) : Mc l D (tyL cI cS) false yX6_draws cX6_draws 1 (some .int) 1 [.ref (aM 0)] (wM cI aM S) (some (.int q.1)) (wM cI aM q.2) := by
  refine Mc_of RX6 (by decide +kernel) rfl wc_X6_draws (Nat.le_of_ble_eq_true rfl) ?_
  intro p e s m args below meth c A Q ls C hA hz hP hD hS hl RET
  have RETh : ∀ {pc : Nat} {ls : Array Slot} {H : Heap} {locs : List Loc} {x : Int32} {S1 : MS}, decode cX6_draws pc = .ok (.ireturn, 1) → some (x, S1) = some q → va_P D vwCl (wM cI aM S1) H → va_D A (wM cI aM S1) → va_S A s.heap H locs → W p l e (rmL 1) s m args below meth c H locs 0 0 Q (F0 m pc ls [.int x]) := by
    intro pc ls H locs x S1 hd h hP hD hS; cases h; exact RET (x_iret C hd) hP hD hS
  refine x_aload_n C dX6_draws_0 rfl hl 0 rfl ?_
  refine x_get C inX6 hP 0 rfl rfl 0 (by decide) wf_X6_7 rfl dX6_draws_1 ?_
  refine x_sipush (v := (184 : Int32)) C dX6_draws_4 (by decide) ?_
  refine x_aload_n C dX6_draws_7 rfl hl 0 rfl ?_
  refine x_get C inX6 hP 0 rfl rfl 0 (by decide) wf_X6_7 rfl dX6_draws_8 ?_
  refine x_sipush (v := (184 : Int32)) C dX6_draws_11 (by decide) ?_
  refine x_ialdK C (by decide) hP 1 rfl (t0 := 0) rfl dX6_draws_14 ?_
  refine x_ldc C wq_X6_52 dX6_draws_15 ?_
  refine x_imul C dX6_draws_17 ?_
  refine x_sipush (v := (12345 : Int32)) C dX6_draws_18 (by decide) ?_
  refine x_iadd C dX6_draws_21 ?_
  refine x_iastMK (wM cI aM) C h (by decide) hP hD hS 1 rfl (t0 := 0) rfl rfl dX6_draws_22 (fun S2 h H locs hP hD hS => ?_)
  refine x_aload_n C dX6_draws_23 rfl hl 0 rfl ?_
  refine x_get C inX6 hP 0 rfl rfl 0 (by decide) wf_X6_7 rfl dX6_draws_24 ?_
  refine x_sipush (v := (184 : Int32)) C dX6_draws_27 (by decide) ?_
  refine x_ialdK C (by decide) hP 1 rfl (t0 := 0) rfl dX6_draws_30 ?_
  refine x_bipush (v := (16 : Int32)) C dX6_draws_31 (by decide) ?_
  refine x_iushr C dX6_draws_33 ?_
  refine x_sipush (v := (32767 : Int32)) C dX6_draws_34 (by decide) ?_
  refine x_iand C dX6_draws_37 ?_
  exact RETh dX6_draws_38 h hP hD hS
theorem dX6_least_0 : decode cX6_least 0 = .ok (.iload_n 0, 1) := by decide +kernel
theorem dX6_least_1 : decode cX6_least 1 = .ok (.iload_n 1, 1) := by decide +kernel
theorem dX6_least_2 : decode cX6_least 2 = .ok (.if_icmp .ge 7, 3) := by decide +kernel
theorem dX6_least_5 : decode cX6_least 5 = .ok (.iload_n 0, 1) := by decide +kernel
theorem dX6_least_6 : decode cX6_least 6 = .ok (.goto 4, 3) := by decide +kernel
theorem dX6_least_9 : decode cX6_least 9 = .ok (.iload_n 1, 1) := by decide +kernel
theorem dX6_least_10 : decode cX6_least 10 = .ok (.ireturn, 1) := by decide +kernel
def bfX6_least_10 (p1 : Int32) (p2 : Int32) (s0 : Int32) : Option (Int32) :=
  some s0
def fX6_least (p1 : Int32) (p2 : Int32) : Option (Int32) :=
  (if p2 ≤ p1 then bfX6_least_10 p1 p2  p2 else bfX6_least_10 p1 p2  p1)
set_option maxHeartbeats 4000000 in
set_option maxRecDepth 100000 in
theorem kX6_least (l : Launch) (D : va_G) (cI cS : ClassId) (ws : va_W) (p1 : Int32) (p2 : Int32) {q : Int32} (h : fX6_least p1 p2 = some q) : Mc l D (tyL cI cS) false yX6_least cX6_least 2 (some .int) 1 [.int p1, .int p2] (ws) (some (.int q)) (ws) := by
  refine Mc_of RX6 (by decide +kernel) rfl wc_X6_least (Nat.le_of_ble_eq_true rfl) ?_
  intro p e s m args below meth c A Q ls C hA hz hP hD hS hl RET
  have RETh : ∀ {pc : Nat} {ls : Array Slot} {H : Heap} {locs : List Loc} {x : Int32} , decode cX6_least pc = .ok (.ireturn, 1) → some x = some q → va_P D vwCl (ws) H → va_D A (ws) → va_S A s.heap H locs → W p l e (rmL 1) s m args below meth c H locs 0 0 Q (F0 m pc ls [.int x]) := by
    intro pc ls H locs x hd h hP hD hS; cases h; exact RET (x_iret C hd) hP hD hS
  have B10 : ∀ (s0 : Int32), bfX6_least_10 p1 p2 s0 = some q → ∀ (H : Heap) (locs : List Loc) (ls : Array Slot), va_P D vwCl (ws) H → va_D A (ws) → va_S A s.heap H locs → lv_has ls 2 [] → W p l e (rmL 1) s m args below meth c H locs 0 0 Q (F0 m 10 ls [.int s0]) := by
    intro s0 h H locs ls hP hD hS hl
    exact RETh dX6_least_10 h hP hD hS
  refine x_iload_n C dX6_least_0 rfl hl 0 rfl ?_
  refine x_iload_n C dX6_least_1 rfl hl 1 rfl ?_
  refine x_icmp_ge (tgt := 9) C h dX6_least_2 (by decide) (fun h => ?_) (fun h => ?_)
  · refine x_iload_n C dX6_least_9 rfl hl 1 rfl ?_
    exact B10 _ h _ _ _ hP hD hS (lv_sub hl [] rfl)
  · refine x_iload_n C dX6_least_5 rfl hl 0 rfl ?_
    refine x_goto (tgt := 10) C dX6_least_6 (by decide) ?_
    exact B10 _ h _ _ _ hP hD hS (lv_sub hl [] rfl)
theorem dX6_of_0 : decode cX6_of 0 = .ok (.aload_n 0, 1) := by decide +kernel
theorem dX6_of_1 : decode cX6_of 1 = .ok (.getfield 7, 3) := by decide +kernel
theorem dX6_of_4 : decode cX6_of 4 = .ok (.iconst 0, 1) := by decide +kernel
theorem dX6_of_5 : decode cX6_of 5 = .ok (.bipush 12, 2) := by decide +kernel
theorem dX6_of_7 : decode cX6_of 7 = .ok (.iload_n 1, 1) := by decide +kernel
theorem dX6_of_8 : decode cX6_of 8 = .ok (.imul, 1) := by decide +kernel
theorem dX6_of_9 : decode cX6_of 9 = .ok (.iadd, 1) := by decide +kernel
theorem dX6_of_10 : decode cX6_of 10 = .ok (.iload_n 2, 1) := by decide +kernel
theorem dX6_of_11 : decode cX6_of 11 = .ok (.iadd, 1) := by decide +kernel
theorem dX6_of_12 : decode cX6_of 12 = .ok (.iaload, 1) := by decide +kernel
theorem dX6_of_13 : decode cX6_of 13 = .ok (.ireturn, 1) := by decide +kernel
def fX6_of (p1 : Int32) (p2 : Int32) (S : MS) : Option (Int32) :=
  (if okI (((0 : Int32) + ((12 : Int32) * p1)) + p2) 5130 then some (S.1 ((((0 : Int32) + ((12 : Int32) * p1)) + p2)).toNatClampNeg) else none)
set_option maxHeartbeats 4000000 in
set_option maxRecDepth 100000 in
theorem kX6_of (l : Launch) (D : va_G) (cI cS : ClassId) (aM : Nat → Nat) (p1 : Int32) (p2 : Int32) (S : MS) {q : Int32} (h : fX6_of p1 p2 S = some q) : Mc l D (tyL cI cS) false yX6_of cX6_of 3 (some .int) 1 [.ref (aM 0), .int p1, .int p2] (wM cI aM S) (some (.int q)) (wM cI aM S) := by
  refine Mc_of RX6 (by decide +kernel) rfl wc_X6_of (Nat.le_of_ble_eq_true rfl) ?_
  intro p e s m args below meth c A Q ls C hA hz hP hD hS hl RET
  have RETh : ∀ {pc : Nat} {ls : Array Slot} {H : Heap} {locs : List Loc} {x : Int32} , decode cX6_of pc = .ok (.ireturn, 1) → some x = some q → va_P D vwCl (wM cI aM S) H → va_D A (wM cI aM S) → va_S A s.heap H locs → W p l e (rmL 1) s m args below meth c H locs 0 0 Q (F0 m pc ls [.int x]) := by
    intro pc ls H locs x hd h hP hD hS; cases h; exact RET (x_iret C hd) hP hD hS
  refine x_aload_n C dX6_of_0 rfl hl 0 rfl ?_
  refine x_get C inX6 hP 0 rfl rfl 0 (by decide) wf_X6_7 rfl dX6_of_1 ?_
  refine x_iconst (v := (0 : Int32)) C dX6_of_4 (by decide) ?_
  refine x_bipush (v := (12 : Int32)) C dX6_of_5 (by decide) ?_
  refine x_iload_n C dX6_of_7 rfl hl 1 rfl ?_
  refine x_imul C dX6_of_8 ?_
  refine x_iadd C dX6_of_9 ?_
  refine x_iload_n C dX6_of_10 rfl hl 2 rfl ?_
  refine x_iadd C dX6_of_11 ?_
  refine x_iald C h hP 1 rfl (t0 := 0) rfl dX6_of_12 (fun h => ?_)
  exact RETh dX6_of_13 h hP hD hS
theorem dX6_row_0 : decode cX6_row 0 = .ok (.sipush 189, 3) := by decide +kernel
theorem dX6_row_3 : decode cX6_row 3 = .ok (.bipush 8, 2) := by decide +kernel
theorem dX6_row_5 : decode cX6_row 5 = .ok (.iload_n 1, 1) := by decide +kernel
theorem dX6_row_6 : decode cX6_row 6 = .ok (.imul, 1) := by decide +kernel
theorem dX6_row_7 : decode cX6_row 7 = .ok (.iadd, 1) := by decide +kernel
theorem dX6_row_8 : decode cX6_row 8 = .ok (.ireturn, 1) := by decide +kernel
def fX6_row (p1 : Int32) (S : MS) : Option (Int32) :=
  some ((189 : Int32) + ((8 : Int32) * p1))
set_option maxHeartbeats 4000000 in
set_option maxRecDepth 100000 in
theorem kX6_row (l : Launch) (D : va_G) (cI cS : ClassId) (aM : Nat → Nat) (p1 : Int32) (S : MS) {q : Int32} (h : fX6_row p1 S = some q) : Mc l D (tyL cI cS) false yX6_row cX6_row 2 (some .int) 1 [.ref (aM 0), .int p1] (wM cI aM S) (some (.int q)) (wM cI aM S) := by
  refine Mc_of RX6 (by decide +kernel) rfl wc_X6_row (Nat.le_of_ble_eq_true rfl) ?_
  intro p e s m args below meth c A Q ls C hA hz hP hD hS hl RET
  have RETh : ∀ {pc : Nat} {ls : Array Slot} {H : Heap} {locs : List Loc} {x : Int32} , decode cX6_row pc = .ok (.ireturn, 1) → some x = some q → va_P D vwCl (wM cI aM S) H → va_D A (wM cI aM S) → va_S A s.heap H locs → W p l e (rmL 1) s m args below meth c H locs 0 0 Q (F0 m pc ls [.int x]) := by
    intro pc ls H locs x hd h hP hD hS; cases h; exact RET (x_iret C hd) hP hD hS
  refine x_sipush (v := (189 : Int32)) C dX6_row_0 (by decide) ?_
  refine x_bipush (v := (8 : Int32)) C dX6_row_3 (by decide) ?_
  refine x_iload_n C dX6_row_5 rfl hl 1 rfl ?_
  refine x_imul C dX6_row_6 ?_
  refine x_iadd C dX6_row_7 ?_
  exact RETh dX6_row_8 h hP hD hS
theorem dX6_delayOf_0 : decode cX6_delayOf 0 = .ok (.aload_n 0, 1) := by decide +kernel
theorem dX6_delayOf_1 : decode cX6_delayOf 1 = .ok (.getfield 7, 3) := by decide +kernel
theorem dX6_delayOf_4 : decode cX6_delayOf 4 = .ok (.aload_n 0, 1) := by decide +kernel
theorem dX6_delayOf_5 : decode cX6_delayOf 5 = .ok (.iload_n 1, 1) := by decide +kernel
theorem dX6_delayOf_6 : decode cX6_delayOf 6 = .ok (.invokevirtual 48, 3) := by decide +kernel
theorem dX6_delayOf_9 : decode cX6_delayOf 9 = .ok (.iconst 1, 1) := by decide +kernel
theorem dX6_delayOf_10 : decode cX6_delayOf 10 = .ok (.iadd, 1) := by decide +kernel
theorem dX6_delayOf_11 : decode cX6_delayOf 11 = .ok (.iaload, 1) := by decide +kernel
theorem dX6_delayOf_12 : decode cX6_delayOf 12 = .ok (.istore_n 2, 1) := by decide +kernel
theorem dX6_delayOf_13 : decode cX6_delayOf 13 = .ok (.aload_n 0, 1) := by decide +kernel
theorem dX6_delayOf_14 : decode cX6_delayOf 14 = .ok (.iload_n 2, 1) := by decide +kernel
theorem dX6_delayOf_15 : decode cX6_delayOf 15 = .ok (.iconst 5, 1) := by decide +kernel
theorem dX6_delayOf_16 : decode cX6_delayOf 16 = .ok (.invokevirtual 44, 3) := by decide +kernel
theorem dX6_delayOf_19 : decode cX6_delayOf 19 = .ok (.istore_n 3, 1) := by decide +kernel
theorem dX6_delayOf_20 : decode cX6_delayOf 20 = .ok (.aload_n 0, 1) := by decide +kernel
theorem dX6_delayOf_21 : decode cX6_delayOf 21 = .ok (.iload_n 2, 1) := by decide +kernel
theorem dX6_delayOf_22 : decode cX6_delayOf 22 = .ok (.bipush 6, 2) := by decide +kernel
theorem dX6_delayOf_24 : decode cX6_delayOf 24 = .ok (.invokevirtual 44, 3) := by decide +kernel
theorem dX6_delayOf_27 : decode cX6_delayOf 27 = .ok (.istore 4, 2) := by decide +kernel
theorem dX6_delayOf_29 : decode cX6_delayOf 29 = .ok (.iload 4, 2) := by decide +kernel
theorem dX6_delayOf_31 : decode cX6_delayOf 31 = .ok (.iload_n 3, 1) := by decide +kernel
theorem dX6_delayOf_32 : decode cX6_delayOf 32 = .ok (.aload_n 0, 1) := by decide +kernel
theorem dX6_delayOf_33 : decode cX6_delayOf 33 = .ok (.getfield 7, 3) := by decide +kernel
theorem dX6_delayOf_36 : decode cX6_delayOf 36 = .ok (.aload_n 0, 1) := by decide +kernel
theorem dX6_delayOf_37 : decode cX6_delayOf 37 = .ok (.iload_n 1, 1) := by decide +kernel
theorem dX6_delayOf_38 : decode cX6_delayOf 38 = .ok (.invokevirtual 48, 3) := by decide +kernel
theorem dX6_delayOf_41 : decode cX6_delayOf 41 = .ok (.iconst 3, 1) := by decide +kernel
theorem dX6_delayOf_42 : decode cX6_delayOf 42 = .ok (.iadd, 1) := by decide +kernel
theorem dX6_delayOf_43 : decode cX6_delayOf 43 = .ok (.iaload, 1) := by decide +kernel
theorem dX6_delayOf_44 : decode cX6_delayOf 44 = .ok (.iconst 1, 1) := by decide +kernel
theorem dX6_delayOf_45 : decode cX6_delayOf 45 = .ok (.isub, 1) := by decide +kernel
theorem dX6_delayOf_46 : decode cX6_delayOf 46 = .ok (.ishl, 1) := by decide +kernel
theorem dX6_delayOf_47 : decode cX6_delayOf 47 = .ok (.invokestatic 53, 3) := by decide +kernel
theorem dX6_delayOf_50 : decode cX6_delayOf 50 = .ok (.istore 5, 2) := by decide +kernel
theorem dX6_delayOf_52 : decode cX6_delayOf 52 = .ok (.aload_n 0, 1) := by decide +kernel
theorem dX6_delayOf_53 : decode cX6_delayOf 53 = .ok (.iload_n 2, 1) := by decide +kernel
theorem dX6_delayOf_54 : decode cX6_delayOf 54 = .ok (.bipush 7, 2) := by decide +kernel
theorem dX6_delayOf_56 : decode cX6_delayOf 56 = .ok (.invokevirtual 44, 3) := by decide +kernel
theorem dX6_delayOf_59 : decode cX6_delayOf 59 = .ok (.tableswitch 58 0 2 #[25, 28, 38], 25) := by decide +kernel
theorem dX6_delayOf_84 : decode cX6_delayOf 84 = .ok (.iload 5, 2) := by decide +kernel
theorem dX6_delayOf_86 : decode cX6_delayOf 86 = .ok (.ireturn, 1) := by decide +kernel
theorem dX6_delayOf_87 : decode cX6_delayOf 87 = .ok (.iconst 1, 1) := by decide +kernel
theorem dX6_delayOf_88 : decode cX6_delayOf 88 = .ok (.aload_n 0, 1) := by decide +kernel
theorem dX6_delayOf_89 : decode cX6_delayOf 89 = .ok (.invokevirtual 56, 3) := by decide +kernel
theorem dX6_delayOf_92 : decode cX6_delayOf 92 = .ok (.iload 5, 2) := by decide +kernel
theorem dX6_delayOf_94 : decode cX6_delayOf 94 = .ok (.irem, 1) := by decide +kernel
theorem dX6_delayOf_95 : decode cX6_delayOf 95 = .ok (.iadd, 1) := by decide +kernel
theorem dX6_delayOf_96 : decode cX6_delayOf 96 = .ok (.ireturn, 1) := by decide +kernel
theorem dX6_delayOf_97 : decode cX6_delayOf 97 = .ok (.iload 5, 2) := by decide +kernel
theorem dX6_delayOf_99 : decode cX6_delayOf 99 = .ok (.iload 5, 2) := by decide +kernel
theorem dX6_delayOf_101 : decode cX6_delayOf 101 = .ok (.iconst 2, 1) := by decide +kernel
theorem dX6_delayOf_102 : decode cX6_delayOf 102 = .ok (.idiv, 1) := by decide +kernel
theorem dX6_delayOf_103 : decode cX6_delayOf 103 = .ok (.isub, 1) := by decide +kernel
theorem dX6_delayOf_104 : decode cX6_delayOf 104 = .ok (.aload_n 0, 1) := by decide +kernel
theorem dX6_delayOf_105 : decode cX6_delayOf 105 = .ok (.invokevirtual 56, 3) := by decide +kernel
theorem dX6_delayOf_108 : decode cX6_delayOf 108 = .ok (.iload 5, 2) := by decide +kernel
theorem dX6_delayOf_110 : decode cX6_delayOf 110 = .ok (.iconst 2, 1) := by decide +kernel
theorem dX6_delayOf_111 : decode cX6_delayOf 111 = .ok (.idiv, 1) := by decide +kernel
theorem dX6_delayOf_112 : decode cX6_delayOf 112 = .ok (.iconst 1, 1) := by decide +kernel
theorem dX6_delayOf_113 : decode cX6_delayOf 113 = .ok (.iadd, 1) := by decide +kernel
theorem dX6_delayOf_114 : decode cX6_delayOf 114 = .ok (.irem, 1) := by decide +kernel
theorem dX6_delayOf_115 : decode cX6_delayOf 115 = .ok (.iadd, 1) := by decide +kernel
theorem dX6_delayOf_116 : decode cX6_delayOf 116 = .ok (.ireturn, 1) := by decide +kernel
theorem dX6_delayOf_117 : decode cX6_delayOf 117 = .ok (.aload_n 0, 1) := by decide +kernel
theorem dX6_delayOf_118 : decode cX6_delayOf 118 = .ok (.getfield 7, 3) := by decide +kernel
theorem dX6_delayOf_121 : decode cX6_delayOf 121 = .ok (.aload_n 0, 1) := by decide +kernel
theorem dX6_delayOf_122 : decode cX6_delayOf 122 = .ok (.iload_n 1, 1) := by decide +kernel
theorem dX6_delayOf_123 : decode cX6_delayOf 123 = .ok (.invokevirtual 48, 3) := by decide +kernel
theorem dX6_delayOf_126 : decode cX6_delayOf 126 = .ok (.bipush 6, 2) := by decide +kernel
theorem dX6_delayOf_128 : decode cX6_delayOf 128 = .ok (.iadd, 1) := by decide +kernel
theorem dX6_delayOf_129 : decode cX6_delayOf 129 = .ok (.iaload, 1) := by decide +kernel
theorem dX6_delayOf_130 : decode cX6_delayOf 130 = .ok (.ifCond .ne 7, 3) := by decide +kernel
theorem dX6_delayOf_133 : decode cX6_delayOf 133 = .ok (.iload_n 3, 1) := by decide +kernel
theorem dX6_delayOf_134 : decode cX6_delayOf 134 = .ok (.goto 16, 3) := by decide +kernel
theorem dX6_delayOf_137 : decode cX6_delayOf 137 = .ok (.aload_n 0, 1) := by decide +kernel
theorem dX6_delayOf_138 : decode cX6_delayOf 138 = .ok (.getfield 7, 3) := by decide +kernel
theorem dX6_delayOf_141 : decode cX6_delayOf 141 = .ok (.aload_n 0, 1) := by decide +kernel
theorem dX6_delayOf_142 : decode cX6_delayOf 142 = .ok (.iload_n 1, 1) := by decide +kernel
theorem dX6_delayOf_143 : decode cX6_delayOf 143 = .ok (.invokevirtual 48, 3) := by decide +kernel
theorem dX6_delayOf_146 : decode cX6_delayOf 146 = .ok (.bipush 6, 2) := by decide +kernel
theorem dX6_delayOf_148 : decode cX6_delayOf 148 = .ok (.iadd, 1) := by decide +kernel
theorem dX6_delayOf_149 : decode cX6_delayOf 149 = .ok (.iaload, 1) := by decide +kernel
theorem dX6_delayOf_150 : decode cX6_delayOf 150 = .ok (.istore 6, 2) := by decide +kernel
theorem dX6_delayOf_152 : decode cX6_delayOf 152 = .ok (.iload 4, 2) := by decide +kernel
theorem dX6_delayOf_154 : decode cX6_delayOf 154 = .ok (.iload_n 3, 1) := by decide +kernel
theorem dX6_delayOf_155 : decode cX6_delayOf 155 = .ok (.aload_n 0, 1) := by decide +kernel
theorem dX6_delayOf_156 : decode cX6_delayOf 156 = .ok (.invokevirtual 56, 3) := by decide +kernel
theorem dX6_delayOf_159 : decode cX6_delayOf 159 = .ok (.iconst 2, 1) := by decide +kernel
theorem dX6_delayOf_160 : decode cX6_delayOf 160 = .ok (.iload 6, 2) := by decide +kernel
theorem dX6_delayOf_162 : decode cX6_delayOf 162 = .ok (.imul, 1) := by decide +kernel
theorem dX6_delayOf_163 : decode cX6_delayOf 163 = .ok (.iconst 1, 1) := by decide +kernel
theorem dX6_delayOf_164 : decode cX6_delayOf 164 = .ok (.iadd, 1) := by decide +kernel
theorem dX6_delayOf_165 : decode cX6_delayOf 165 = .ok (.irem, 1) := by decide +kernel
theorem dX6_delayOf_166 : decode cX6_delayOf 166 = .ok (.iadd, 1) := by decide +kernel
theorem dX6_delayOf_167 : decode cX6_delayOf 167 = .ok (.invokestatic 53, 3) := by decide +kernel
theorem dX6_delayOf_170 : decode cX6_delayOf 170 = .ok (.ireturn, 1) := by decide +kernel
def bfX6_delayOf_150 (p1 : Int32) (x3 : Int32) (x4 : Int32) (s0 : Int32) (S : MS) : Option (Int32 × (MS)) :=
  ob (fX6_draws  S) fun u14 => (if (((2 : Int32) * s0) + (1 : Int32)) = 0 then none else ob (fX6_least x4 ((x3 + (u14.1 - u14.1 / (((2 : Int32) * s0) + (1 : Int32)) * (((2 : Int32) * s0) + (1 : Int32)))))) fun u15 => some (u15, u14.2))
def fX6_delayOf (p1 : Int32) (S : MS) : Option (Int32 × (MS)) :=
  ob (fX6_row p1 S) fun u16 => (if okI (u16 + (1 : Int32)) 5130 then nm ((S.1 ((u16 + (1 : Int32))).toNatClampNeg)) fun v17 => ob (fX6_of v17 (5 : Int32) S) fun u18 => ob (fX6_of v17 (6 : Int32) S) fun u19 => ob (fX6_row p1 S) fun u20 => (if okI (u20 + (3 : Int32)) 5130 then ob (fX6_least u19 ((u18 <<< (((S.1 ((u20 + (3 : Int32))).toNatClampNeg) - (1 : Int32)) &&& 31)))) fun u21 => ob (fX6_of v17 (7 : Int32) S) fun u22 => (if u22 = (0 : Int32) then some (u21, S) else (if u22 = (1 : Int32) then ob (fX6_draws  S) fun u26 => (if u21 = 0 then none else some (((1 : Int32) + (u26.1 - u26.1 / u21 * u21)), u26.2)) else (if u22 = (2 : Int32) then ob (fX6_draws  S) fun u25 => (if ((u21 / (2 : Int32)) + (1 : Int32)) = 0 then none else some (((u21 - (u21 / (2 : Int32))) + (u25.1 - u25.1 / ((u21 / (2 : Int32)) + (1 : Int32)) * ((u21 / (2 : Int32)) + (1 : Int32)))), u25.2)) else ob (fX6_row p1 S) fun u23 => (if okI (u23 + (6 : Int32)) 5130 then (if (S.1 ((u23 + (6 : Int32))).toNatClampNeg) = 0 then bfX6_delayOf_150 p1  u18 u19 u18 S else ob (fX6_row p1 S) fun u24 => (if okI (u24 + (6 : Int32)) 5130 then bfX6_delayOf_150 p1  u18 u19 ((S.1 ((u24 + (6 : Int32))).toNatClampNeg)) S else none)) else none)))) else none) else none)
set_option maxHeartbeats 4000000 in
set_option maxRecDepth 100000 in
theorem kX6_delayOf (l : Launch) (D : va_G) (cI cS : ClassId) (aM : Nat → Nat) (p1 : Int32) (S : MS) {q : Int32 × (MS)} (h : fX6_delayOf p1 S = some q) : Mc l D (tyL cI cS) false yX6_delayOf cX6_delayOf 7 (some .int) 2 [.ref (aM 0), .int p1] (wM cI aM S) (some (.int q.1)) (wM cI aM q.2) := by
  refine Mc_of RX6 (by decide +kernel) rfl wc_X6_delayOf (Nat.le_of_ble_eq_true rfl) ?_
  intro p e s m args below meth c A Q ls C hA hz hP hD hS hl RET
  have RETh : ∀ {pc : Nat} {ls : Array Slot} {H : Heap} {locs : List Loc} {x : Int32} {S1 : MS}, decode cX6_delayOf pc = .ok (.ireturn, 1) → some (x, S1) = some q → va_P D vwCl (wM cI aM S1) H → va_D A (wM cI aM S1) → va_S A s.heap H locs → W p l e (rmL 2) s m args below meth c H locs 0 0 Q (F0 m pc ls [.int x]) := by
    intro pc ls H locs x S1 hd h hP hD hS; cases h; exact RET (x_iret C hd) hP hD hS
  have B150 : ∀ (x3 : Int32) (x4 : Int32) (s0 : Int32) (S : MS), bfX6_delayOf_150 p1 x3 x4 s0 S = some q → ∀ (H : Heap) (locs : List Loc) (ls : Array Slot), va_P D vwCl (wM cI aM S) H → va_D A (wM cI aM S) → va_S A s.heap H locs → lv_has ls 7 [(0, .ref (aM 0)), (3, .int x3), (4, .int x4)] → W p l e (rmL 2) s m args below meth c H locs 0 0 Q (F0 m 150 ls [.int s0]) := by
    intro x3 x4 s0 S h H locs ls hP hD hS hl
    refine x_istore (lv' := [(6, .int s0), (0, .ref (aM 0)), (3, .int x3), (4, .int x4)]) C dX6_delayOf_150 hl (by decide) rfl (fun ls hl => ?_)
    refine x_iload C dX6_delayOf_152 hl 3 rfl ?_
    refine x_iload_n C dX6_delayOf_154 rfl hl 2 rfl ?_
    refine x_aload_n C dX6_delayOf_155 rfl hl 1 rfl ?_
    obtain ⟨u14, hu14, h⟩ := ob_some h
    refine x_callV (As := []) (n := 0) C (kX6_draws l D cI cS aM  _ hu14) (fun hh => nomatch hh) wm_X6_56 wi_X6_draws we_X6_draws wz_X6 wc_X6_draws (by decide +kernel) rfl hP hD hS hA 0 3 rfl rfl rfl hl.1 dX6_delayOf_156 rfl (Nat.le_of_ble_eq_true rfl) ⟨Nat.le_of_ble_eq_true rfl, Nat.le_of_ble_eq_true rfl⟩ ⟨Nat.zero_le _, Nat.zero_le _⟩ (fun H locs hP hD hS => ?_)
    refine x_iconst (v := (2 : Int32)) C dX6_delayOf_159 (by decide) ?_
    refine x_iload C dX6_delayOf_160 hl 0 rfl ?_
    refine x_imul C dX6_delayOf_162 ?_
    refine x_iconst (v := (1 : Int32)) C dX6_delayOf_163 (by decide) ?_
    refine x_iadd C dX6_delayOf_164 ?_
    refine x_irem C h dX6_delayOf_165 (fun h => ?_)
    refine x_iadd C dX6_delayOf_166 ?_
    obtain ⟨u15, hu15, h⟩ := ob_some h
    refine x_callS (As := [.int _, .int _]) (n := 2) C (kX6_least l D cI cS _ _ _ hu15) (fun hh => nomatch hh) wm_X6_53 wt_X6_least wz_X6 wc_X6_least (by decide +kernel) rfl hP hD hS hA hl.1 dX6_delayOf_167 rfl (Nat.le_of_ble_eq_true rfl) ⟨Nat.le_of_ble_eq_true rfl, Nat.le_of_ble_eq_true rfl⟩ ⟨Nat.zero_le _, Nat.zero_le _⟩ (fun H locs hP hD hS => ?_)
    exact RETh dX6_delayOf_170 h hP hD hS
  refine x_aload_n C dX6_delayOf_0 rfl hl 0 rfl ?_
  refine x_get C inX6 hP 0 rfl rfl 0 (by decide) wf_X6_7 rfl dX6_delayOf_1 ?_
  refine x_aload_n C dX6_delayOf_4 rfl hl 0 rfl ?_
  refine x_iload_n C dX6_delayOf_5 rfl hl 1 rfl ?_
  obtain ⟨u16, hu16, h⟩ := ob_some h
  refine x_callV (As := [.int _]) (n := 1) C (kX6_row l D cI cS aM _ _ hu16) (fun hh => nomatch hh) wm_X6_48 wi_X6_row we_X6_row wz_X6 wc_X6_row (by decide +kernel) rfl hP hD hS hA 0 3 rfl rfl rfl hl.1 dX6_delayOf_6 rfl (Nat.le_of_ble_eq_true rfl) ⟨Nat.le_of_ble_eq_true rfl, Nat.le_of_ble_eq_true rfl⟩ ⟨Nat.zero_le _, Nat.zero_le _⟩ (fun H locs hP hD hS => ?_)
  refine x_iconst (v := (1 : Int32)) C dX6_delayOf_9 (by decide) ?_
  refine x_iadd C dX6_delayOf_10 ?_
  refine x_iald C h hP 1 rfl (t0 := 0) rfl dX6_delayOf_11 (fun h => ?_)
  refine x_nmi h (fun v17 h => ?_)
  refine x_istore_n (lv' := [(2, .int v17), (0, .ref (aM 0)), (1, .int p1)]) C dX6_delayOf_12 rfl hl (by decide) rfl (fun ls hl => ?_)
  refine x_aload_n C dX6_delayOf_13 rfl hl 1 rfl ?_
  refine x_iload_n C dX6_delayOf_14 rfl hl 0 rfl ?_
  refine x_iconst (v := (5 : Int32)) C dX6_delayOf_15 (by decide) ?_
  obtain ⟨u18, hu18, h⟩ := ob_some h
  refine x_callV (As := [.int _, .int _]) (n := 2) C (kX6_of l D cI cS aM _ _ _ hu18) (fun hh => nomatch hh) wm_X6_44 wi_X6_of we_X6_of wz_X6 wc_X6_of (by decide +kernel) rfl hP hD hS hA 0 3 rfl rfl rfl hl.1 dX6_delayOf_16 rfl (Nat.le_of_ble_eq_true rfl) ⟨Nat.le_of_ble_eq_true rfl, Nat.le_of_ble_eq_true rfl⟩ ⟨Nat.zero_le _, Nat.zero_le _⟩ (fun H locs hP hD hS => ?_)
  refine x_istore_n (lv' := [(3, .int u18), (2, .int v17), (0, .ref (aM 0)), (1, .int p1)]) C dX6_delayOf_19 rfl hl (by decide) rfl (fun ls hl => ?_)
  refine x_aload_n C dX6_delayOf_20 rfl hl 2 rfl ?_
  refine x_iload_n C dX6_delayOf_21 rfl hl 1 rfl ?_
  refine x_bipush (v := (6 : Int32)) C dX6_delayOf_22 (by decide) ?_
  obtain ⟨u19, hu19, h⟩ := ob_some h
  refine x_callV (As := [.int _, .int _]) (n := 2) C (kX6_of l D cI cS aM _ _ _ hu19) (fun hh => nomatch hh) wm_X6_44 wi_X6_of we_X6_of wz_X6 wc_X6_of (by decide +kernel) rfl hP hD hS hA 0 3 rfl rfl rfl hl.1 dX6_delayOf_24 rfl (Nat.le_of_ble_eq_true rfl) ⟨Nat.le_of_ble_eq_true rfl, Nat.le_of_ble_eq_true rfl⟩ ⟨Nat.zero_le _, Nat.zero_le _⟩ (fun H locs hP hD hS => ?_)
  refine x_istore (lv' := [(4, .int u19), (3, .int u18), (2, .int v17), (0, .ref (aM 0)), (1, .int p1)]) C dX6_delayOf_27 hl (by decide) rfl (fun ls hl => ?_)
  refine x_iload C dX6_delayOf_29 hl 0 rfl ?_
  refine x_iload_n C dX6_delayOf_31 rfl hl 1 rfl ?_
  refine x_aload_n C dX6_delayOf_32 rfl hl 3 rfl ?_
  refine x_get C inX6 hP 0 rfl rfl 0 (by decide) wf_X6_7 rfl dX6_delayOf_33 ?_
  refine x_aload_n C dX6_delayOf_36 rfl hl 3 rfl ?_
  refine x_iload_n C dX6_delayOf_37 rfl hl 4 rfl ?_
  obtain ⟨u20, hu20, h⟩ := ob_some h
  refine x_callV (As := [.int _]) (n := 1) C (kX6_row l D cI cS aM _ _ hu20) (fun hh => nomatch hh) wm_X6_48 wi_X6_row we_X6_row wz_X6 wc_X6_row (by decide +kernel) rfl hP hD hS hA 0 3 rfl rfl rfl hl.1 dX6_delayOf_38 rfl (Nat.le_of_ble_eq_true rfl) ⟨Nat.le_of_ble_eq_true rfl, Nat.le_of_ble_eq_true rfl⟩ ⟨Nat.zero_le _, Nat.zero_le _⟩ (fun H locs hP hD hS => ?_)
  refine x_iconst (v := (3 : Int32)) C dX6_delayOf_41 (by decide) ?_
  refine x_iadd C dX6_delayOf_42 ?_
  refine x_iald C h hP 1 rfl (t0 := 0) rfl dX6_delayOf_43 (fun h => ?_)
  refine x_iconst (v := (1 : Int32)) C dX6_delayOf_44 (by decide) ?_
  refine x_isub C dX6_delayOf_45 ?_
  refine x_ishl C dX6_delayOf_46 ?_
  obtain ⟨u21, hu21, h⟩ := ob_some h
  refine x_callS (As := [.int _, .int _]) (n := 2) C (kX6_least l D cI cS _ _ _ hu21) (fun hh => nomatch hh) wm_X6_53 wt_X6_least wz_X6 wc_X6_least (by decide +kernel) rfl hP hD hS hA hl.1 dX6_delayOf_47 rfl (Nat.le_of_ble_eq_true rfl) ⟨Nat.le_of_ble_eq_true rfl, Nat.le_of_ble_eq_true rfl⟩ ⟨Nat.zero_le _, Nat.zero_le _⟩ (fun H locs hP hD hS => ?_)
  refine x_istore (lv' := [(5, .int u21), (4, .int u19), (3, .int u18), (2, .int v17), (0, .ref (aM 0)), (1, .int p1)]) C dX6_delayOf_50 hl (by decide) rfl (fun ls hl => ?_)
  refine x_aload_n C dX6_delayOf_52 rfl hl 4 rfl ?_
  refine x_iload_n C dX6_delayOf_53 rfl hl 3 rfl ?_
  refine x_bipush (v := (7 : Int32)) C dX6_delayOf_54 (by decide) ?_
  obtain ⟨u22, hu22, h⟩ := ob_some h
  refine x_callV (As := [.int _, .int _]) (n := 2) C (kX6_of l D cI cS aM _ _ _ hu22) (fun hh => nomatch hh) wm_X6_44 wi_X6_of we_X6_of wz_X6 wc_X6_of (by decide +kernel) rfl hP hD hS hA 0 3 rfl rfl rfl hl.1 dX6_delayOf_56 rfl (Nat.le_of_ble_eq_true rfl) ⟨Nat.le_of_ble_eq_true rfl, Nat.le_of_ble_eq_true rfl⟩ ⟨Nat.zero_le _, Nat.zero_le _⟩ (fun H locs hP hD hS => ?_)
  rcases x_ifc h with ⟨hc, h⟩ | ⟨hc0, h⟩
  · refine x_tabIn (tgt := 84) C dX6_delayOf_59 (by rw [hc]; decide) (by rw [hc]; decide) (by rw [hc]; rfl) (by decide) ?_
    refine x_iload C dX6_delayOf_84 hl 0 rfl ?_
    exact RETh dX6_delayOf_86 h hP hD hS
  ·
    rcases x_ifc h with ⟨hc, h⟩ | ⟨hc1, h⟩
    · refine x_tabIn (tgt := 87) C dX6_delayOf_59 (by rw [hc]; decide) (by rw [hc]; decide) (by rw [hc]; rfl) (by decide) ?_
      refine x_iconst (v := (1 : Int32)) C dX6_delayOf_87 (by decide) ?_
      refine x_aload_n C dX6_delayOf_88 rfl hl 4 rfl ?_
      obtain ⟨u26, hu26, h⟩ := ob_some h
      refine x_callV (As := []) (n := 0) C (kX6_draws l D cI cS aM  _ hu26) (fun hh => nomatch hh) wm_X6_56 wi_X6_draws we_X6_draws wz_X6 wc_X6_draws (by decide +kernel) rfl hP hD hS hA 0 3 rfl rfl rfl hl.1 dX6_delayOf_89 rfl (Nat.le_of_ble_eq_true rfl) ⟨Nat.le_of_ble_eq_true rfl, Nat.le_of_ble_eq_true rfl⟩ ⟨Nat.zero_le _, Nat.zero_le _⟩ (fun H locs hP hD hS => ?_)
      refine x_iload C dX6_delayOf_92 hl 0 rfl ?_
      refine x_irem C h dX6_delayOf_94 (fun h => ?_)
      refine x_iadd C dX6_delayOf_95 ?_
      exact RETh dX6_delayOf_96 h hP hD hS
    ·
      rcases x_ifc h with ⟨hc, h⟩ | ⟨hc2, h⟩
      · refine x_tabIn (tgt := 97) C dX6_delayOf_59 (by rw [hc]; decide) (by rw [hc]; decide) (by rw [hc]; rfl) (by decide) ?_
        refine x_iload C dX6_delayOf_97 hl 0 rfl ?_
        refine x_iload C dX6_delayOf_99 hl 0 rfl ?_
        refine x_iconst (v := (2 : Int32)) C dX6_delayOf_101 (by decide) ?_
        refine x_idivK C (by decide) dX6_delayOf_102 ?_
        refine x_isub C dX6_delayOf_103 ?_
        refine x_aload_n C dX6_delayOf_104 rfl hl 4 rfl ?_
        obtain ⟨u25, hu25, h⟩ := ob_some h
        refine x_callV (As := []) (n := 0) C (kX6_draws l D cI cS aM  _ hu25) (fun hh => nomatch hh) wm_X6_56 wi_X6_draws we_X6_draws wz_X6 wc_X6_draws (by decide +kernel) rfl hP hD hS hA 0 3 rfl rfl rfl hl.1 dX6_delayOf_105 rfl (Nat.le_of_ble_eq_true rfl) ⟨Nat.le_of_ble_eq_true rfl, Nat.le_of_ble_eq_true rfl⟩ ⟨Nat.zero_le _, Nat.zero_le _⟩ (fun H locs hP hD hS => ?_)
        refine x_iload C dX6_delayOf_108 hl 0 rfl ?_
        refine x_iconst (v := (2 : Int32)) C dX6_delayOf_110 (by decide) ?_
        refine x_idivK C (by decide) dX6_delayOf_111 ?_
        refine x_iconst (v := (1 : Int32)) C dX6_delayOf_112 (by decide) ?_
        refine x_iadd C dX6_delayOf_113 ?_
        refine x_irem C h dX6_delayOf_114 (fun h => ?_)
        refine x_iadd C dX6_delayOf_115 ?_
        exact RETh dX6_delayOf_116 h hP hD hS
      · refine x_switch (tgt := 117) C dX6_delayOf_59 (x_tabO0_2 hc0 hc1 hc2) (by decide) ?_
        refine x_aload_n C dX6_delayOf_117 rfl hl 4 rfl ?_
        refine x_get C inX6 hP 0 rfl rfl 0 (by decide) wf_X6_7 rfl dX6_delayOf_118 ?_
        refine x_aload_n C dX6_delayOf_121 rfl hl 4 rfl ?_
        refine x_iload_n C dX6_delayOf_122 rfl hl 5 rfl ?_
        obtain ⟨u23, hu23, h⟩ := ob_some h
        refine x_callV (As := [.int _]) (n := 1) C (kX6_row l D cI cS aM _ _ hu23) (fun hh => nomatch hh) wm_X6_48 wi_X6_row we_X6_row wz_X6 wc_X6_row (by decide +kernel) rfl hP hD hS hA 0 3 rfl rfl rfl hl.1 dX6_delayOf_123 rfl (Nat.le_of_ble_eq_true rfl) ⟨Nat.le_of_ble_eq_true rfl, Nat.le_of_ble_eq_true rfl⟩ ⟨Nat.zero_le _, Nat.zero_le _⟩ (fun H locs hP hD hS => ?_)
        refine x_bipush (v := (6 : Int32)) C dX6_delayOf_126 (by decide) ?_
        refine x_iadd C dX6_delayOf_128 ?_
        refine x_iald C h hP 1 rfl (t0 := 0) rfl dX6_delayOf_129 (fun h => ?_)
        refine x_if_ne (tgt := 137) C h dX6_delayOf_130 (by decide) (fun h => ?_) (fun h => ?_)
        · refine x_aload_n C dX6_delayOf_137 rfl hl 4 rfl ?_
          refine x_get C inX6 hP 0 rfl rfl 0 (by decide) wf_X6_7 rfl dX6_delayOf_138 ?_
          refine x_aload_n C dX6_delayOf_141 rfl hl 4 rfl ?_
          refine x_iload_n C dX6_delayOf_142 rfl hl 5 rfl ?_
          obtain ⟨u24, hu24, h⟩ := ob_some h
          refine x_callV (As := [.int _]) (n := 1) C (kX6_row l D cI cS aM _ _ hu24) (fun hh => nomatch hh) wm_X6_48 wi_X6_row we_X6_row wz_X6 wc_X6_row (by decide +kernel) rfl hP hD hS hA 0 3 rfl rfl rfl hl.1 dX6_delayOf_143 rfl (Nat.le_of_ble_eq_true rfl) ⟨Nat.le_of_ble_eq_true rfl, Nat.le_of_ble_eq_true rfl⟩ ⟨Nat.zero_le _, Nat.zero_le _⟩ (fun H locs hP hD hS => ?_)
          refine x_bipush (v := (6 : Int32)) C dX6_delayOf_146 (by decide) ?_
          refine x_iadd C dX6_delayOf_148 ?_
          refine x_iald C h hP 1 rfl (t0 := 0) rfl dX6_delayOf_149 (fun h => ?_)
          exact B150 _ _ _ _ h _ _ _ hP hD hS (lv_sub hl [4, 2, 1] rfl)
        · refine x_iload_n C dX6_delayOf_133 rfl hl 2 rfl ?_
          refine x_goto (tgt := 150) C dX6_delayOf_134 (by decide) ?_
          exact B150 _ _ _ _ h _ _ _ hP hD hS (lv_sub hl [4, 2, 1] rfl)
theorem dX6_dies_0 : decode cX6_dies 0 = .ok (.aload_n 0, 1) := by decide +kernel
theorem dX6_dies_1 : decode cX6_dies 1 = .ok (.iload_n 1, 1) := by decide +kernel
theorem dX6_dies_2 : decode cX6_dies 2 = .ok (.invokevirtual 48, 3) := by decide +kernel
theorem dX6_dies_5 : decode cX6_dies 5 = .ok (.istore_n 2, 1) := by decide +kernel
theorem dX6_dies_6 : decode cX6_dies 6 = .ok (.iload_n 2, 1) := by decide +kernel
theorem dX6_dies_7 : decode cX6_dies 7 = .ok (.aload_n 0, 1) := by decide +kernel
theorem dX6_dies_8 : decode cX6_dies 8 = .ok (.aload_n 0, 1) := by decide +kernel
theorem dX6_dies_9 : decode cX6_dies 9 = .ok (.getfield 7, 3) := by decide +kernel
theorem dX6_dies_12 : decode cX6_dies 12 = .ok (.sipush 188, 3) := by decide +kernel
theorem dX6_dies_15 : decode cX6_dies 15 = .ok (.iaload, 1) := by decide +kernel
theorem dX6_dies_16 : decode cX6_dies 16 = .ok (.iconst 1, 1) := by decide +kernel
theorem dX6_dies_17 : decode cX6_dies 17 = .ok (.isub, 1) := by decide +kernel
theorem dX6_dies_18 : decode cX6_dies 18 = .ok (.invokevirtual 48, 3) := by decide +kernel
theorem dX6_dies_21 : decode cX6_dies 21 = .ok (.if_icmp .ge 24, 3) := by decide +kernel
theorem dX6_dies_24 : decode cX6_dies 24 = .ok (.aload_n 0, 1) := by decide +kernel
theorem dX6_dies_25 : decode cX6_dies 25 = .ok (.getfield 7, 3) := by decide +kernel
theorem dX6_dies_28 : decode cX6_dies 28 = .ok (.iload_n 2, 1) := by decide +kernel
theorem dX6_dies_29 : decode cX6_dies 29 = .ok (.aload_n 0, 1) := by decide +kernel
theorem dX6_dies_30 : decode cX6_dies 30 = .ok (.getfield 7, 3) := by decide +kernel
theorem dX6_dies_33 : decode cX6_dies 33 = .ok (.iload_n 2, 1) := by decide +kernel
theorem dX6_dies_34 : decode cX6_dies 34 = .ok (.bipush 8, 2) := by decide +kernel
theorem dX6_dies_36 : decode cX6_dies 36 = .ok (.iadd, 1) := by decide +kernel
theorem dX6_dies_37 : decode cX6_dies 37 = .ok (.iaload, 1) := by decide +kernel
theorem dX6_dies_38 : decode cX6_dies 38 = .ok (.iastore, 1) := by decide +kernel
theorem dX6_dies_39 : decode cX6_dies 39 = .ok (.iinc 2 1, 3) := by decide +kernel
theorem dX6_dies_42 : decode cX6_dies 42 = .ok (.goto (-36), 3) := by decide +kernel
theorem dX6_dies_45 : decode cX6_dies 45 = .ok (.aload_n 0, 1) := by decide +kernel
theorem dX6_dies_46 : decode cX6_dies 46 = .ok (.getfield 7, 3) := by decide +kernel
theorem dX6_dies_49 : decode cX6_dies 49 = .ok (.sipush 188, 3) := by decide +kernel
theorem dX6_dies_52 : decode cX6_dies 52 = .ok (.dup2, 1) := by decide +kernel
theorem dX6_dies_53 : decode cX6_dies 53 = .ok (.iaload, 1) := by decide +kernel
theorem dX6_dies_54 : decode cX6_dies 54 = .ok (.iconst 1, 1) := by decide +kernel
theorem dX6_dies_55 : decode cX6_dies 55 = .ok (.isub, 1) := by decide +kernel
theorem dX6_dies_56 : decode cX6_dies 56 = .ok (.iastore, 1) := by decide +kernel
theorem dX6_dies_57 : decode cX6_dies 57 = .ok (.return_, 1) := by decide +kernel
def bfX6_dies_6 (p1 : Int32) (K6 : Int32 × (MS) → Option (MS)) (x : Int32 × (MS)) : Option (MS) :=
  match x with
  | (x2, S) => ob (fX6_row (((S.1 ((188 : Int32)).toNatClampNeg) - (1 : Int32))) S) fun u5 => (if u5 ≤ x2 then nm (upd S.1 ((188 : Int32)).toNatClampNeg ((S.1 ((188 : Int32)).toNatClampNeg) - (1 : Int32)), S.2) fun S6 => some S6 else (if okI (x2 + (8 : Int32)) 5130 then (if okI x2 5130 then nm (upd S.1 (x2).toNatClampNeg (S.1 ((x2 + (8 : Int32))).toNatClampNeg), S.2) fun S7 => K6 ((x2 + (1 : Int32)), S7) else none) else none))
def fX6_dies (p1 : Int32) (S : MS) : Option (MS) :=
  ob (fX6_row p1 S) fun u8 => iter (bfX6_dies_6 p1) FU (u8, S)
set_option maxHeartbeats 4000000 in
set_option maxRecDepth 100000 in
theorem kX6_dies (l : Launch) (D : va_G) (cI cS : ClassId) (aM : Nat → Nat) (p1 : Int32) (S : MS) {q : MS} (h : fX6_dies p1 S = some q) : Mc l D (tyL cI cS) false yX6_dies cX6_dies 3 none 2 [.ref (aM 0), .int p1] (wM cI aM S) none (wM cI aM q) := by
  refine Mc_of RX6 (by decide +kernel) rfl wc_X6_dies (Nat.le_of_ble_eq_true rfl) ?_
  intro p e s m args below meth c A Q ls C hA hz hP hD hS hl RET
  have RETh : ∀ {pc : Nat} {ls : Array Slot} {H : Heap} {locs : List Loc} {S1 : MS}, decode cX6_dies pc = .ok (.return_, 1) → some S1 = some q → va_P D vwCl (wM cI aM S1) H → va_D A (wM cI aM S1) → va_S A s.heap H locs → W p l e (rmL 2) s m args below meth c H locs 0 0 Q (F0 m pc ls []) := by
    intro pc ls H locs S1 hd h hP hD hS; cases h; exact RET (x_vret C hd) hP hD hS
  have B6 : ∀ (n : Nat) (x : Int32 × (MS)), iter (bfX6_dies_6 p1) n x = some q → (match x with | (x2, S) => ∀ (H : Heap) (locs : List Loc) (ls : Array Slot), va_P D vwCl (wM cI aM S) H → va_D A (wM cI aM S) → va_S A s.heap H locs → lv_has ls 3 [(0, .ref (aM 0)), (2, .int x2)] → W p l e (rmL 2) s m args below meth c H locs 0 0 Q (F0 m 6 ls [])) := by
    refine iter_ind (fun x : Int32 × (MS) => (match x with | (x2, S) => ∀ (H : Heap) (locs : List Loc) (ls : Array Slot), va_P D vwCl (wM cI aM S) H → va_D A (wM cI aM S) → va_S A s.heap H locs → lv_has ls 3 [(0, .ref (aM 0)), (2, .int x2)] → W p l e (rmL 2) s m args below meth c H locs 0 0 Q (F0 m 6 ls []))) ?_
    intro K6 ih6 x h
    obtain ⟨x2, S⟩ := x
    intro H locs ls hP hD hS hl
    refine x_iload_n C dX6_dies_6 rfl hl 1 rfl ?_
    refine x_aload_n C dX6_dies_7 rfl hl 0 rfl ?_
    refine x_aload_n C dX6_dies_8 rfl hl 0 rfl ?_
    refine x_get C inX6 hP 0 rfl rfl 0 (by decide) wf_X6_7 rfl dX6_dies_9 ?_
    refine x_sipush (v := (188 : Int32)) C dX6_dies_12 (by decide) ?_
    refine x_ialdK C (by decide) hP 1 rfl (t0 := 0) rfl dX6_dies_15 ?_
    refine x_iconst (v := (1 : Int32)) C dX6_dies_16 (by decide) ?_
    refine x_isub C dX6_dies_17 ?_
    obtain ⟨u5, hu5, h⟩ := ob_some h
    refine x_callV (As := [.int _]) (n := 1) C (kX6_row l D cI cS aM _ _ hu5) (fun hh => nomatch hh) wm_X6_48 wi_X6_row we_X6_row wz_X6 wc_X6_row (by decide +kernel) rfl hP hD hS hA 0 3 rfl rfl rfl hl.1 dX6_dies_18 rfl (Nat.le_of_ble_eq_true rfl) ⟨Nat.le_of_ble_eq_true rfl, Nat.le_of_ble_eq_true rfl⟩ ⟨Nat.zero_le _, Nat.zero_le _⟩ (fun H locs hP hD hS => ?_)
    refine x_icmp_ge (tgt := 45) C h dX6_dies_21 (by decide) (fun h => ?_) (fun h => ?_)
    · refine x_aload_n C dX6_dies_45 rfl hl 0 rfl ?_
      refine x_get C inX6 hP 0 rfl rfl 0 (by decide) wf_X6_7 rfl dX6_dies_46 ?_
      refine x_sipush (v := (188 : Int32)) C dX6_dies_49 (by decide) ?_
      refine x_dup2 C dX6_dies_52 rfl rfl ?_
      refine x_ialdK C (by decide) hP 1 rfl (t0 := 0) rfl dX6_dies_53 ?_
      refine x_iconst (v := (1 : Int32)) C dX6_dies_54 (by decide) ?_
      refine x_isub C dX6_dies_55 ?_
      refine x_iastMK (wM cI aM) C h (by decide) hP hD hS 1 rfl (t0 := 0) rfl rfl dX6_dies_56 (fun S6 h H locs hP hD hS => ?_)
      exact RETh dX6_dies_57 h hP hD hS
    · refine x_aload_n C dX6_dies_24 rfl hl 0 rfl ?_
      refine x_get C inX6 hP 0 rfl rfl 0 (by decide) wf_X6_7 rfl dX6_dies_25 ?_
      refine x_iload_n C dX6_dies_28 rfl hl 1 rfl ?_
      refine x_aload_n C dX6_dies_29 rfl hl 0 rfl ?_
      refine x_get C inX6 hP 0 rfl rfl 0 (by decide) wf_X6_7 rfl dX6_dies_30 ?_
      refine x_iload_n C dX6_dies_33 rfl hl 1 rfl ?_
      refine x_bipush (v := (8 : Int32)) C dX6_dies_34 (by decide) ?_
      refine x_iadd C dX6_dies_36 ?_
      refine x_iald C h hP 1 rfl (t0 := 0) rfl dX6_dies_37 (fun h => ?_)
      refine x_iastM (wM cI aM) C h hP hD hS 1 rfl (t0 := 0) rfl rfl dX6_dies_38 (fun S7 h H locs hP hD hS => ?_)
      refine x_iinc (v := (x2 + (1 : Int32))) (lv' := [(2, .int (x2 + (1 : Int32))), (0, .ref (aM 0))]) C dX6_dies_39 hl (k := 1) rfl rfl (by decide) rfl (fun ls hl => ?_)
      refine x_goto (tgt := 6) C dX6_dies_42 (by decide) ?_
      exact ih6 _ h _ _ _ hP hD hS (lv_sub hl [1, 0] rfl)
  refine x_aload_n C dX6_dies_0 rfl hl 0 rfl ?_
  refine x_iload_n C dX6_dies_1 rfl hl 1 rfl ?_
  obtain ⟨u8, hu8, h⟩ := ob_some h
  refine x_callV (As := [.int _]) (n := 1) C (kX6_row l D cI cS aM _ _ hu8) (fun hh => nomatch hh) wm_X6_48 wi_X6_row we_X6_row wz_X6 wc_X6_row (by decide +kernel) rfl hP hD hS hA 0 3 rfl rfl rfl hl.1 dX6_dies_2 rfl (Nat.le_of_ble_eq_true rfl) ⟨Nat.le_of_ble_eq_true rfl, Nat.le_of_ble_eq_true rfl⟩ ⟨Nat.zero_le _, Nat.zero_le _⟩ (fun H locs hP hD hS => ?_)
  refine x_istore_n (lv' := [(2, .int u8), (0, .ref (aM 0)), (1, .int p1)]) C dX6_dies_5 rfl hl (by decide) rfl (fun ls hl => ?_)
  exact B6 FU _ h _ _ _ hP hD hS (lv_sub hl [1, 0] rfl)
theorem dX6_fails_0 : decode cX6_fails 0 = .ok (.aload_n 0, 1) := by decide +kernel
theorem dX6_fails_1 : decode cX6_fails 1 = .ok (.getfield 7, 3) := by decide +kernel
theorem dX6_fails_4 : decode cX6_fails 4 = .ok (.aload_n 0, 1) := by decide +kernel
theorem dX6_fails_5 : decode cX6_fails 5 = .ok (.iload_n 1, 1) := by decide +kernel
theorem dX6_fails_6 : decode cX6_fails 6 = .ok (.invokevirtual 48, 3) := by decide +kernel
theorem dX6_fails_9 : decode cX6_fails 9 = .ok (.iconst 1, 1) := by decide +kernel
theorem dX6_fails_10 : decode cX6_fails 10 = .ok (.iadd, 1) := by decide +kernel
theorem dX6_fails_11 : decode cX6_fails 11 = .ok (.iaload, 1) := by decide +kernel
theorem dX6_fails_12 : decode cX6_fails 12 = .ok (.istore_n 3, 1) := by decide +kernel
theorem dX6_fails_13 : decode cX6_fails 13 = .ok (.aload_n 0, 1) := by decide +kernel
theorem dX6_fails_14 : decode cX6_fails 14 = .ok (.iload_n 3, 1) := by decide +kernel
theorem dX6_fails_15 : decode cX6_fails 15 = .ok (.iload_n 2, 1) := by decide +kernel
theorem dX6_fails_16 : decode cX6_fails 16 = .ok (.iconst 1, 1) := by decide +kernel
theorem dX6_fails_17 : decode cX6_fails 17 = .ok (.invokevirtual 60, 3) := by decide +kernel
theorem dX6_fails_20 : decode cX6_fails 20 = .ok (.aload_n 0, 1) := by decide +kernel
theorem dX6_fails_21 : decode cX6_fails 21 = .ok (.getfield 7, 3) := by decide +kernel
theorem dX6_fails_24 : decode cX6_fails 24 = .ok (.aload_n 0, 1) := by decide +kernel
theorem dX6_fails_25 : decode cX6_fails 25 = .ok (.iload_n 1, 1) := by decide +kernel
theorem dX6_fails_26 : decode cX6_fails 26 = .ok (.invokevirtual 48, 3) := by decide +kernel
theorem dX6_fails_29 : decode cX6_fails 29 = .ok (.iconst 3, 1) := by decide +kernel
theorem dX6_fails_30 : decode cX6_fails 30 = .ok (.iadd, 1) := by decide +kernel
theorem dX6_fails_31 : decode cX6_fails 31 = .ok (.iaload, 1) := by decide +kernel
theorem dX6_fails_32 : decode cX6_fails 32 = .ok (.aload_n 0, 1) := by decide +kernel
theorem dX6_fails_33 : decode cX6_fails 33 = .ok (.iload_n 3, 1) := by decide +kernel
theorem dX6_fails_34 : decode cX6_fails 34 = .ok (.iconst 3, 1) := by decide +kernel
theorem dX6_fails_35 : decode cX6_fails 35 = .ok (.invokevirtual 44, 3) := by decide +kernel
theorem dX6_fails_38 : decode cX6_fails 38 = .ok (.if_icmp .ge 27, 3) := by decide +kernel
theorem dX6_fails_41 : decode cX6_fails 41 = .ok (.aload_n 0, 1) := by decide +kernel
theorem dX6_fails_42 : decode cX6_fails 42 = .ok (.getfield 7, 3) := by decide +kernel
theorem dX6_fails_45 : decode cX6_fails 45 = .ok (.bipush 90, 2) := by decide +kernel
theorem dX6_fails_47 : decode cX6_fails 47 = .ok (.bipush 8, 2) := by decide +kernel
theorem dX6_fails_49 : decode cX6_fails 49 = .ok (.iload_n 3, 1) := by decide +kernel
theorem dX6_fails_50 : decode cX6_fails 50 = .ok (.imul, 1) := by decide +kernel
theorem dX6_fails_51 : decode cX6_fails 51 = .ok (.iadd, 1) := by decide +kernel
theorem dX6_fails_52 : decode cX6_fails 52 = .ok (.bipush 7, 2) := by decide +kernel
theorem dX6_fails_54 : decode cX6_fails 54 = .ok (.iadd, 1) := by decide +kernel
theorem dX6_fails_55 : decode cX6_fails 55 = .ok (.iaload, 1) := by decide +kernel
theorem dX6_fails_56 : decode cX6_fails 56 = .ok (.bipush 10, 2) := by decide +kernel
theorem dX6_fails_58 : decode cX6_fails 58 = .ok (.if_icmp .lt 7, 3) := by decide +kernel
theorem dX6_fails_61 : decode cX6_fails 61 = .ok (.iconst 1, 1) := by decide +kernel
theorem dX6_fails_62 : decode cX6_fails 62 = .ok (.goto 4, 3) := by decide +kernel
theorem dX6_fails_65 : decode cX6_fails 65 = .ok (.iconst 0, 1) := by decide +kernel
theorem dX6_fails_66 : decode cX6_fails 66 = .ok (.istore 4, 2) := by decide +kernel
theorem dX6_fails_68 : decode cX6_fails 68 = .ok (.iload 4, 2) := by decide +kernel
theorem dX6_fails_70 : decode cX6_fails 70 = .ok (.ifCond .eq 11, 3) := by decide +kernel
theorem dX6_fails_73 : decode cX6_fails 73 = .ok (.aload_n 0, 1) := by decide +kernel
theorem dX6_fails_74 : decode cX6_fails 74 = .ok (.iload_n 1, 1) := by decide +kernel
theorem dX6_fails_75 : decode cX6_fails 75 = .ok (.invokevirtual 64, 3) := by decide +kernel
theorem dX6_fails_78 : decode cX6_fails 78 = .ok (.goto 4, 3) := by decide +kernel
theorem dX6_fails_81 : decode cX6_fails 81 = .ok (.iconst 0, 1) := by decide +kernel
theorem dX6_fails_82 : decode cX6_fails 82 = .ok (.istore 5, 2) := by decide +kernel
theorem dX6_fails_84 : decode cX6_fails 84 = .ok (.iload 4, 2) := by decide +kernel
theorem dX6_fails_86 : decode cX6_fails 86 = .ok (.ifCond .eq 25, 3) := by decide +kernel
theorem dX6_fails_89 : decode cX6_fails 89 = .ok (.aload_n 0, 1) := by decide +kernel
theorem dX6_fails_90 : decode cX6_fails 90 = .ok (.getfield 67, 3) := by decide +kernel
theorem dX6_fails_93 : decode cX6_fails 93 = .ok (.iload 5, 2) := by decide +kernel
theorem dX6_fails_95 : decode cX6_fails 95 = .ok (.iadd, 1) := by decide +kernel
theorem dX6_fails_96 : decode cX6_fails 96 = .ok (.aload_n 0, 1) := by decide +kernel
theorem dX6_fails_97 : decode cX6_fails 97 = .ok (.getfield 7, 3) := by decide +kernel
theorem dX6_fails_100 : decode cX6_fails 100 = .ok (.aload_n 0, 1) := by decide +kernel
theorem dX6_fails_101 : decode cX6_fails 101 = .ok (.iload_n 1, 1) := by decide +kernel
theorem dX6_fails_102 : decode cX6_fails 102 = .ok (.invokevirtual 48, 3) := by decide +kernel
theorem dX6_fails_105 : decode cX6_fails 105 = .ok (.iconst 2, 1) := by decide +kernel
theorem dX6_fails_106 : decode cX6_fails 106 = .ok (.iadd, 1) := by decide +kernel
theorem dX6_fails_107 : decode cX6_fails 107 = .ok (.iaload, 1) := by decide +kernel
theorem dX6_fails_108 : decode cX6_fails 108 = .ok (.if_icmp .lt 16, 3) := by decide +kernel
theorem dX6_fails_111 : decode cX6_fails 111 = .ok (.aload_n 0, 1) := by decide +kernel
theorem dX6_fails_112 : decode cX6_fails 112 = .ok (.iload_n 3, 1) := by decide +kernel
theorem dX6_fails_113 : decode cX6_fails 113 = .ok (.iconst 3, 1) := by decide +kernel
theorem dX6_fails_114 : decode cX6_fails 114 = .ok (.iconst 1, 1) := by decide +kernel
theorem dX6_fails_115 : decode cX6_fails 115 = .ok (.invokevirtual 60, 3) := by decide +kernel
theorem dX6_fails_118 : decode cX6_fails 118 = .ok (.aload_n 0, 1) := by decide +kernel
theorem dX6_fails_119 : decode cX6_fails 119 = .ok (.iload_n 1, 1) := by decide +kernel
theorem dX6_fails_120 : decode cX6_fails 120 = .ok (.invokevirtual 70, 3) := by decide +kernel
theorem dX6_fails_123 : decode cX6_fails 123 = .ok (.return_, 1) := by decide +kernel
theorem dX6_fails_124 : decode cX6_fails 124 = .ok (.aload_n 0, 1) := by decide +kernel
theorem dX6_fails_125 : decode cX6_fails 125 = .ok (.iload_n 3, 1) := by decide +kernel
theorem dX6_fails_126 : decode cX6_fails 126 = .ok (.bipush 7, 2) := by decide +kernel
theorem dX6_fails_128 : decode cX6_fails 128 = .ok (.bipush (-10), 2) := by decide +kernel
theorem dX6_fails_130 : decode cX6_fails 130 = .ok (.invokevirtual 60, 3) := by decide +kernel
theorem dX6_fails_133 : decode cX6_fails 133 = .ok (.aload_n 0, 1) := by decide +kernel
theorem dX6_fails_134 : decode cX6_fails 134 = .ok (.getfield 7, 3) := by decide +kernel
theorem dX6_fails_137 : decode cX6_fails 137 = .ok (.aload_n 0, 1) := by decide +kernel
theorem dX6_fails_138 : decode cX6_fails 138 = .ok (.iload_n 1, 1) := by decide +kernel
theorem dX6_fails_139 : decode cX6_fails 139 = .ok (.invokevirtual 48, 3) := by decide +kernel
theorem dX6_fails_142 : decode cX6_fails 142 = .ok (.iconst 4, 1) := by decide +kernel
theorem dX6_fails_143 : decode cX6_fails 143 = .ok (.iadd, 1) := by decide +kernel
theorem dX6_fails_144 : decode cX6_fails 144 = .ok (.iconst 1, 1) := by decide +kernel
theorem dX6_fails_145 : decode cX6_fails 145 = .ok (.iastore, 1) := by decide +kernel
theorem dX6_fails_146 : decode cX6_fails 146 = .ok (.aload_n 0, 1) := by decide +kernel
theorem dX6_fails_147 : decode cX6_fails 147 = .ok (.getfield 7, 3) := by decide +kernel
theorem dX6_fails_150 : decode cX6_fails 150 = .ok (.aload_n 0, 1) := by decide +kernel
theorem dX6_fails_151 : decode cX6_fails 151 = .ok (.iload_n 1, 1) := by decide +kernel
theorem dX6_fails_152 : decode cX6_fails 152 = .ok (.invokevirtual 48, 3) := by decide +kernel
theorem dX6_fails_155 : decode cX6_fails 155 = .ok (.iconst 5, 1) := by decide +kernel
theorem dX6_fails_156 : decode cX6_fails 156 = .ok (.iadd, 1) := by decide +kernel
theorem dX6_fails_157 : decode cX6_fails 157 = .ok (.aload_n 0, 1) := by decide +kernel
theorem dX6_fails_158 : decode cX6_fails 158 = .ok (.getfield 67, 3) := by decide +kernel
theorem dX6_fails_161 : decode cX6_fails 161 = .ok (.iload 5, 2) := by decide +kernel
theorem dX6_fails_163 : decode cX6_fails 163 = .ok (.iadd, 1) := by decide +kernel
theorem dX6_fails_164 : decode cX6_fails 164 = .ok (.iastore, 1) := by decide +kernel
theorem dX6_fails_165 : decode cX6_fails 165 = .ok (.aload_n 0, 1) := by decide +kernel
theorem dX6_fails_166 : decode cX6_fails 166 = .ok (.getfield 7, 3) := by decide +kernel
theorem dX6_fails_169 : decode cX6_fails 169 = .ok (.aload_n 0, 1) := by decide +kernel
theorem dX6_fails_170 : decode cX6_fails 170 = .ok (.iload_n 1, 1) := by decide +kernel
theorem dX6_fails_171 : decode cX6_fails 171 = .ok (.invokevirtual 48, 3) := by decide +kernel
theorem dX6_fails_174 : decode cX6_fails 174 = .ok (.bipush 6, 2) := by decide +kernel
theorem dX6_fails_176 : decode cX6_fails 176 = .ok (.iadd, 1) := by decide +kernel
theorem dX6_fails_177 : decode cX6_fails 177 = .ok (.iload 5, 2) := by decide +kernel
theorem dX6_fails_179 : decode cX6_fails 179 = .ok (.iastore, 1) := by decide +kernel
theorem dX6_fails_180 : decode cX6_fails 180 = .ok (.aload_n 0, 1) := by decide +kernel
theorem dX6_fails_181 : decode cX6_fails 181 = .ok (.getfield 7, 3) := by decide +kernel
theorem dX6_fails_184 : decode cX6_fails 184 = .ok (.aload_n 0, 1) := by decide +kernel
theorem dX6_fails_185 : decode cX6_fails 185 = .ok (.iload_n 1, 1) := by decide +kernel
theorem dX6_fails_186 : decode cX6_fails 186 = .ok (.invokevirtual 48, 3) := by decide +kernel
theorem dX6_fails_189 : decode cX6_fails 189 = .ok (.bipush 7, 2) := by decide +kernel
theorem dX6_fails_191 : decode cX6_fails 191 = .ok (.iadd, 1) := by decide +kernel
theorem dX6_fails_192 : decode cX6_fails 192 = .ok (.bipush (-9), 2) := by decide +kernel
theorem dX6_fails_194 : decode cX6_fails 194 = .ok (.iastore, 1) := by decide +kernel
theorem dX6_fails_195 : decode cX6_fails 195 = .ok (.return_, 1) := by decide +kernel
def bfX6_fails_111 (p1 : Int32) (p2 : Int32) (x3 : Int32) (S : MS) : Option (MS) :=
  ob (fX6_counts x3 (3 : Int32) (1 : Int32) S) fun u19 => ob (fX6_dies p1 u19) fun u20 => some u20
def bfX6_fails_82 (p1 : Int32) (p2 : Int32) (x3 : Int32) (x4 : Int32) (s0 : Int32) (S : MS) : Option (MS) :=
  (if x4 = 0 then bfX6_fails_111 p1 p2  x3 S else ob (fX6_row p1 S) fun u21 => (if okI (u21 + (2 : Int32)) 5130 then (if ((S.2.2 5) + s0) < (S.1 ((u21 + (2 : Int32))).toNatClampNeg) then ob (fX6_counts x3 (7 : Int32) (-10 : Int32) S) fun u22 => ob (fX6_row p1 u22) fun u23 => (if okI (u23 + (4 : Int32)) 5130 then nm (upd u22.1 ((u23 + (4 : Int32))).toNatClampNeg (1 : Int32), u22.2) fun S24 => ob (fX6_row p1 S24) fun u25 => (if okI (u25 + (5 : Int32)) 5130 then nm (upd S24.1 ((u25 + (5 : Int32))).toNatClampNeg ((S24.2.2 5) + s0), S24.2) fun S26 => ob (fX6_row p1 S26) fun u27 => (if okI (u27 + (6 : Int32)) 5130 then nm (upd S26.1 ((u27 + (6 : Int32))).toNatClampNeg s0, S26.2) fun S28 => ob (fX6_row p1 S28) fun u29 => (if okI (u29 + (7 : Int32)) 5130 then nm (upd S28.1 ((u29 + (7 : Int32))).toNatClampNeg (-9 : Int32), S28.2) fun S30 => some S30 else none) else none) else none) else none) else bfX6_fails_111 p1 p2  x3 S) else none))
def bfX6_fails_66 (p1 : Int32) (p2 : Int32) (x3 : Int32) (s0 : Int32) (S : MS) : Option (MS) :=
  (if s0 = 0 then bfX6_fails_82 p1 p2  x3 s0 ((0 : Int32)) S else ob (fX6_delayOf p1 S) fun u31 => bfX6_fails_82 p1 p2  x3 s0 u31.1 u31.2)
def bfX6_fails_65 (p1 : Int32) (p2 : Int32) (x3 : Int32) (S : MS) : Option (MS) :=
  bfX6_fails_66 p1 p2  x3 ((0 : Int32)) S
def fX6_fails (p1 : Int32) (p2 : Int32) (S : MS) : Option (MS) :=
  ob (fX6_row p1 S) fun u32 => (if okI (u32 + (1 : Int32)) 5130 then nm ((S.1 ((u32 + (1 : Int32))).toNatClampNeg)) fun v33 => ob (fX6_counts v33 p2 (1 : Int32) S) fun u34 => ob (fX6_row p1 u34) fun u35 => (if okI (u35 + (3 : Int32)) 5130 then ob (fX6_of v33 (3 : Int32) u34) fun u36 => (if u36 ≤ (u34.1 ((u35 + (3 : Int32))).toNatClampNeg) then bfX6_fails_65 p1 p2  v33 u34 else (if okI (((90 : Int32) + ((8 : Int32) * v33)) + (7 : Int32)) 5130 then (if (u34.1 ((((90 : Int32) + ((8 : Int32) * v33)) + (7 : Int32))).toNatClampNeg) < (10 : Int32) then bfX6_fails_65 p1 p2  v33 u34 else bfX6_fails_66 p1 p2  v33 ((1 : Int32)) u34) else none)) else none) else none)
set_option maxHeartbeats 4000000 in
set_option maxRecDepth 100000 in
theorem kX6_fails (l : Launch) (D : va_G) (cI cS : ClassId) (aM : Nat → Nat) (p1 : Int32) (p2 : Int32) (S : MS) {q : MS} (h : fX6_fails p1 p2 S = some q) : Mc l D (tyL cI cS) false yX6_fails cX6_fails 6 none 3 [.ref (aM 0), .int p1, .int p2] (wM cI aM S) none (wM cI aM q) := by
  refine Mc_of RX6 (by decide +kernel) rfl wc_X6_fails (Nat.le_of_ble_eq_true rfl) ?_
  intro p e s m args below meth c A Q ls C hA hz hP hD hS hl RET
  have RETh : ∀ {pc : Nat} {ls : Array Slot} {H : Heap} {locs : List Loc} {S1 : MS}, decode cX6_fails pc = .ok (.return_, 1) → some S1 = some q → va_P D vwCl (wM cI aM S1) H → va_D A (wM cI aM S1) → va_S A s.heap H locs → W p l e (rmL 3) s m args below meth c H locs 0 0 Q (F0 m pc ls []) := by
    intro pc ls H locs S1 hd h hP hD hS; cases h; exact RET (x_vret C hd) hP hD hS
  have B111 : ∀ (x3 : Int32) (S : MS), bfX6_fails_111 p1 p2 x3 S = some q → ∀ (H : Heap) (locs : List Loc) (ls : Array Slot), va_P D vwCl (wM cI aM S) H → va_D A (wM cI aM S) → va_S A s.heap H locs → lv_has ls 6 [(0, .ref (aM 0)), (1, .int p1), (3, .int x3)] → W p l e (rmL 3) s m args below meth c H locs 0 0 Q (F0 m 111 ls []) := by
    intro x3 S h H locs ls hP hD hS hl
    refine x_aload_n C dX6_fails_111 rfl hl 0 rfl ?_
    refine x_iload_n C dX6_fails_112 rfl hl 2 rfl ?_
    refine x_iconst (v := (3 : Int32)) C dX6_fails_113 (by decide) ?_
    refine x_iconst (v := (1 : Int32)) C dX6_fails_114 (by decide) ?_
    obtain ⟨u19, hu19, h⟩ := ob_some h
    refine x_callV (As := [.int _, .int _, .int _]) (n := 3) C (kX6_counts l D cI cS aM _ _ _ _ hu19) (fun hh => nomatch hh) wm_X6_60 wi_X6_counts we_X6_counts wz_X6 wc_X6_counts (by decide +kernel) rfl hP hD hS hA 0 3 rfl rfl rfl hl.1 dX6_fails_115 rfl (Nat.le_of_ble_eq_true rfl) ⟨Nat.le_of_ble_eq_true rfl, Nat.le_of_ble_eq_true rfl⟩ ⟨Nat.zero_le _, Nat.zero_le _⟩ (fun H locs hP hD hS => ?_)
    refine x_aload_n C dX6_fails_118 rfl hl 0 rfl ?_
    refine x_iload_n C dX6_fails_119 rfl hl 1 rfl ?_
    obtain ⟨u20, hu20, h⟩ := ob_some h
    refine x_callV (As := [.int _]) (n := 1) C (kX6_dies l D cI cS aM _ _ hu20) (fun hh => nomatch hh) wm_X6_70 wi_X6_dies we_X6_dies wz_X6 wc_X6_dies (by decide +kernel) rfl hP hD hS hA 0 3 rfl rfl rfl hl.1 dX6_fails_120 rfl (Nat.le_of_ble_eq_true rfl) ⟨Nat.le_of_ble_eq_true rfl, Nat.le_of_ble_eq_true rfl⟩ ⟨Nat.zero_le _, Nat.zero_le _⟩ (fun H locs hP hD hS => ?_)
    exact RETh dX6_fails_123 h hP hD hS
  have B82 : ∀ (x3 : Int32) (x4 : Int32) (s0 : Int32) (S : MS), bfX6_fails_82 p1 p2 x3 x4 s0 S = some q → ∀ (H : Heap) (locs : List Loc) (ls : Array Slot), va_P D vwCl (wM cI aM S) H → va_D A (wM cI aM S) → va_S A s.heap H locs → lv_has ls 6 [(0, .ref (aM 0)), (1, .int p1), (3, .int x3), (4, .int x4)] → W p l e (rmL 3) s m args below meth c H locs 0 0 Q (F0 m 82 ls [.int s0]) := by
    intro x3 x4 s0 S h H locs ls hP hD hS hl
    refine x_istore (lv' := [(5, .int s0), (0, .ref (aM 0)), (1, .int p1), (3, .int x3), (4, .int x4)]) C dX6_fails_82 hl (by decide) rfl (fun ls hl => ?_)
    refine x_iload C dX6_fails_84 hl 4 rfl ?_
    refine x_if_eq (tgt := 111) C h dX6_fails_86 (by decide) (fun h => ?_) (fun h => ?_)
    · exact B111 _ _ h _ _ _ hP hD hS (lv_sub hl [1, 2, 3] rfl)
    · refine x_aload_n C dX6_fails_89 rfl hl 1 rfl ?_
      refine x_get C inX6 hP 0 rfl rfl 5 (by decide) wf_X6_67 rfl dX6_fails_90 ?_
      refine x_iload C dX6_fails_93 hl 0 rfl ?_
      refine x_iadd C dX6_fails_95 ?_
      refine x_aload_n C dX6_fails_96 rfl hl 1 rfl ?_
      refine x_get C inX6 hP 0 rfl rfl 0 (by decide) wf_X6_7 rfl dX6_fails_97 ?_
      refine x_aload_n C dX6_fails_100 rfl hl 1 rfl ?_
      refine x_iload_n C dX6_fails_101 rfl hl 2 rfl ?_
      obtain ⟨u21, hu21, h⟩ := ob_some h
      refine x_callV (As := [.int _]) (n := 1) C (kX6_row l D cI cS aM _ _ hu21) (fun hh => nomatch hh) wm_X6_48 wi_X6_row we_X6_row wz_X6 wc_X6_row (by decide +kernel) rfl hP hD hS hA 0 3 rfl rfl rfl hl.1 dX6_fails_102 rfl (Nat.le_of_ble_eq_true rfl) ⟨Nat.le_of_ble_eq_true rfl, Nat.le_of_ble_eq_true rfl⟩ ⟨Nat.zero_le _, Nat.zero_le _⟩ (fun H locs hP hD hS => ?_)
      refine x_iconst (v := (2 : Int32)) C dX6_fails_105 (by decide) ?_
      refine x_iadd C dX6_fails_106 ?_
      refine x_iald C h hP 1 rfl (t0 := 0) rfl dX6_fails_107 (fun h => ?_)
      refine x_icmp_lt (tgt := 124) C h dX6_fails_108 (by decide) (fun h => ?_) (fun h => ?_)
      · refine x_aload_n C dX6_fails_124 rfl hl 1 rfl ?_
        refine x_iload_n C dX6_fails_125 rfl hl 3 rfl ?_
        refine x_bipush (v := (7 : Int32)) C dX6_fails_126 (by decide) ?_
        refine x_bipush (v := (-10 : Int32)) C dX6_fails_128 (by decide) ?_
        obtain ⟨u22, hu22, h⟩ := ob_some h
        refine x_callV (As := [.int _, .int _, .int _]) (n := 3) C (kX6_counts l D cI cS aM _ _ _ _ hu22) (fun hh => nomatch hh) wm_X6_60 wi_X6_counts we_X6_counts wz_X6 wc_X6_counts (by decide +kernel) rfl hP hD hS hA 0 3 rfl rfl rfl hl.1 dX6_fails_130 rfl (Nat.le_of_ble_eq_true rfl) ⟨Nat.le_of_ble_eq_true rfl, Nat.le_of_ble_eq_true rfl⟩ ⟨Nat.zero_le _, Nat.zero_le _⟩ (fun H locs hP hD hS => ?_)
        refine x_aload_n C dX6_fails_133 rfl hl 1 rfl ?_
        refine x_get C inX6 hP 0 rfl rfl 0 (by decide) wf_X6_7 rfl dX6_fails_134 ?_
        refine x_aload_n C dX6_fails_137 rfl hl 1 rfl ?_
        refine x_iload_n C dX6_fails_138 rfl hl 2 rfl ?_
        obtain ⟨u23, hu23, h⟩ := ob_some h
        refine x_callV (As := [.int _]) (n := 1) C (kX6_row l D cI cS aM _ _ hu23) (fun hh => nomatch hh) wm_X6_48 wi_X6_row we_X6_row wz_X6 wc_X6_row (by decide +kernel) rfl hP hD hS hA 0 3 rfl rfl rfl hl.1 dX6_fails_139 rfl (Nat.le_of_ble_eq_true rfl) ⟨Nat.le_of_ble_eq_true rfl, Nat.le_of_ble_eq_true rfl⟩ ⟨Nat.zero_le _, Nat.zero_le _⟩ (fun H locs hP hD hS => ?_)
        refine x_iconst (v := (4 : Int32)) C dX6_fails_142 (by decide) ?_
        refine x_iadd C dX6_fails_143 ?_
        refine x_iconst (v := (1 : Int32)) C dX6_fails_144 (by decide) ?_
        refine x_iastM (wM cI aM) C h hP hD hS 1 rfl (t0 := 0) rfl rfl dX6_fails_145 (fun S24 h H locs hP hD hS => ?_)
        refine x_aload_n C dX6_fails_146 rfl hl 1 rfl ?_
        refine x_get C inX6 hP 0 rfl rfl 0 (by decide) wf_X6_7 rfl dX6_fails_147 ?_
        refine x_aload_n C dX6_fails_150 rfl hl 1 rfl ?_
        refine x_iload_n C dX6_fails_151 rfl hl 2 rfl ?_
        obtain ⟨u25, hu25, h⟩ := ob_some h
        refine x_callV (As := [.int _]) (n := 1) C (kX6_row l D cI cS aM _ _ hu25) (fun hh => nomatch hh) wm_X6_48 wi_X6_row we_X6_row wz_X6 wc_X6_row (by decide +kernel) rfl hP hD hS hA 0 3 rfl rfl rfl hl.1 dX6_fails_152 rfl (Nat.le_of_ble_eq_true rfl) ⟨Nat.le_of_ble_eq_true rfl, Nat.le_of_ble_eq_true rfl⟩ ⟨Nat.zero_le _, Nat.zero_le _⟩ (fun H locs hP hD hS => ?_)
        refine x_iconst (v := (5 : Int32)) C dX6_fails_155 (by decide) ?_
        refine x_iadd C dX6_fails_156 ?_
        refine x_aload_n C dX6_fails_157 rfl hl 1 rfl ?_
        refine x_get C inX6 hP 0 rfl rfl 5 (by decide) wf_X6_67 rfl dX6_fails_158 ?_
        refine x_iload C dX6_fails_161 hl 0 rfl ?_
        refine x_iadd C dX6_fails_163 ?_
        refine x_iastM (wM cI aM) C h hP hD hS 1 rfl (t0 := 0) rfl rfl dX6_fails_164 (fun S26 h H locs hP hD hS => ?_)
        refine x_aload_n C dX6_fails_165 rfl hl 1 rfl ?_
        refine x_get C inX6 hP 0 rfl rfl 0 (by decide) wf_X6_7 rfl dX6_fails_166 ?_
        refine x_aload_n C dX6_fails_169 rfl hl 1 rfl ?_
        refine x_iload_n C dX6_fails_170 rfl hl 2 rfl ?_
        obtain ⟨u27, hu27, h⟩ := ob_some h
        refine x_callV (As := [.int _]) (n := 1) C (kX6_row l D cI cS aM _ _ hu27) (fun hh => nomatch hh) wm_X6_48 wi_X6_row we_X6_row wz_X6 wc_X6_row (by decide +kernel) rfl hP hD hS hA 0 3 rfl rfl rfl hl.1 dX6_fails_171 rfl (Nat.le_of_ble_eq_true rfl) ⟨Nat.le_of_ble_eq_true rfl, Nat.le_of_ble_eq_true rfl⟩ ⟨Nat.zero_le _, Nat.zero_le _⟩ (fun H locs hP hD hS => ?_)
        refine x_bipush (v := (6 : Int32)) C dX6_fails_174 (by decide) ?_
        refine x_iadd C dX6_fails_176 ?_
        refine x_iload C dX6_fails_177 hl 0 rfl ?_
        refine x_iastM (wM cI aM) C h hP hD hS 1 rfl (t0 := 0) rfl rfl dX6_fails_179 (fun S28 h H locs hP hD hS => ?_)
        refine x_aload_n C dX6_fails_180 rfl hl 1 rfl ?_
        refine x_get C inX6 hP 0 rfl rfl 0 (by decide) wf_X6_7 rfl dX6_fails_181 ?_
        refine x_aload_n C dX6_fails_184 rfl hl 1 rfl ?_
        refine x_iload_n C dX6_fails_185 rfl hl 2 rfl ?_
        obtain ⟨u29, hu29, h⟩ := ob_some h
        refine x_callV (As := [.int _]) (n := 1) C (kX6_row l D cI cS aM _ _ hu29) (fun hh => nomatch hh) wm_X6_48 wi_X6_row we_X6_row wz_X6 wc_X6_row (by decide +kernel) rfl hP hD hS hA 0 3 rfl rfl rfl hl.1 dX6_fails_186 rfl (Nat.le_of_ble_eq_true rfl) ⟨Nat.le_of_ble_eq_true rfl, Nat.le_of_ble_eq_true rfl⟩ ⟨Nat.zero_le _, Nat.zero_le _⟩ (fun H locs hP hD hS => ?_)
        refine x_bipush (v := (7 : Int32)) C dX6_fails_189 (by decide) ?_
        refine x_iadd C dX6_fails_191 ?_
        refine x_bipush (v := (-9 : Int32)) C dX6_fails_192 (by decide) ?_
        refine x_iastM (wM cI aM) C h hP hD hS 1 rfl (t0 := 0) rfl rfl dX6_fails_194 (fun S30 h H locs hP hD hS => ?_)
        exact RETh dX6_fails_195 h hP hD hS
      · exact B111 _ _ h _ _ _ hP hD hS (lv_sub hl [1, 2, 3] rfl)
  have B66 : ∀ (x3 : Int32) (s0 : Int32) (S : MS), bfX6_fails_66 p1 p2 x3 s0 S = some q → ∀ (H : Heap) (locs : List Loc) (ls : Array Slot), va_P D vwCl (wM cI aM S) H → va_D A (wM cI aM S) → va_S A s.heap H locs → lv_has ls 6 [(0, .ref (aM 0)), (1, .int p1), (3, .int x3)] → W p l e (rmL 3) s m args below meth c H locs 0 0 Q (F0 m 66 ls [.int s0]) := by
    intro x3 s0 S h H locs ls hP hD hS hl
    refine x_istore (lv' := [(4, .int s0), (0, .ref (aM 0)), (1, .int p1), (3, .int x3)]) C dX6_fails_66 hl (by decide) rfl (fun ls hl => ?_)
    refine x_iload C dX6_fails_68 hl 0 rfl ?_
    refine x_if_eq (tgt := 81) C h dX6_fails_70 (by decide) (fun h => ?_) (fun h => ?_)
    · refine x_iconst (v := (0 : Int32)) C dX6_fails_81 (by decide) ?_
      exact B82 _ _ _ _ h _ _ _ hP hD hS (lv_sub hl [1, 2, 3, 0] rfl)
    · refine x_aload_n C dX6_fails_73 rfl hl 1 rfl ?_
      refine x_iload_n C dX6_fails_74 rfl hl 2 rfl ?_
      obtain ⟨u31, hu31, h⟩ := ob_some h
      refine x_callV (As := [.int _]) (n := 1) C (kX6_delayOf l D cI cS aM _ _ hu31) (fun hh => nomatch hh) wm_X6_64 wi_X6_delayOf we_X6_delayOf wz_X6 wc_X6_delayOf (by decide +kernel) rfl hP hD hS hA 0 3 rfl rfl rfl hl.1 dX6_fails_75 rfl (Nat.le_of_ble_eq_true rfl) ⟨Nat.le_of_ble_eq_true rfl, Nat.le_of_ble_eq_true rfl⟩ ⟨Nat.zero_le _, Nat.zero_le _⟩ (fun H locs hP hD hS => ?_)
      refine x_goto (tgt := 82) C dX6_fails_78 (by decide) ?_
      exact B82 _ _ _ _ h _ _ _ hP hD hS (lv_sub hl [1, 2, 3, 0] rfl)
  have B65 : ∀ (x3 : Int32) (S : MS), bfX6_fails_65 p1 p2 x3 S = some q → ∀ (H : Heap) (locs : List Loc) (ls : Array Slot), va_P D vwCl (wM cI aM S) H → va_D A (wM cI aM S) → va_S A s.heap H locs → lv_has ls 6 [(0, .ref (aM 0)), (1, .int p1), (3, .int x3)] → W p l e (rmL 3) s m args below meth c H locs 0 0 Q (F0 m 65 ls []) := by
    intro x3 S h H locs ls hP hD hS hl
    refine x_iconst (v := (0 : Int32)) C dX6_fails_65 (by decide) ?_
    exact B66 _ _ _ h _ _ _ hP hD hS hl
  refine x_aload_n C dX6_fails_0 rfl hl 0 rfl ?_
  refine x_get C inX6 hP 0 rfl rfl 0 (by decide) wf_X6_7 rfl dX6_fails_1 ?_
  refine x_aload_n C dX6_fails_4 rfl hl 0 rfl ?_
  refine x_iload_n C dX6_fails_5 rfl hl 1 rfl ?_
  obtain ⟨u32, hu32, h⟩ := ob_some h
  refine x_callV (As := [.int _]) (n := 1) C (kX6_row l D cI cS aM _ _ hu32) (fun hh => nomatch hh) wm_X6_48 wi_X6_row we_X6_row wz_X6 wc_X6_row (by decide +kernel) rfl hP hD hS hA 0 3 rfl rfl rfl hl.1 dX6_fails_6 rfl (Nat.le_of_ble_eq_true rfl) ⟨Nat.le_of_ble_eq_true rfl, Nat.le_of_ble_eq_true rfl⟩ ⟨Nat.zero_le _, Nat.zero_le _⟩ (fun H locs hP hD hS => ?_)
  refine x_iconst (v := (1 : Int32)) C dX6_fails_9 (by decide) ?_
  refine x_iadd C dX6_fails_10 ?_
  refine x_iald C h hP 1 rfl (t0 := 0) rfl dX6_fails_11 (fun h => ?_)
  refine x_nmi h (fun v33 h => ?_)
  refine x_istore_n (lv' := [(3, .int v33), (0, .ref (aM 0)), (1, .int p1), (2, .int p2)]) C dX6_fails_12 rfl hl (by decide) rfl (fun ls hl => ?_)
  refine x_aload_n C dX6_fails_13 rfl hl 1 rfl ?_
  refine x_iload_n C dX6_fails_14 rfl hl 0 rfl ?_
  refine x_iload_n C dX6_fails_15 rfl hl 3 rfl ?_
  refine x_iconst (v := (1 : Int32)) C dX6_fails_16 (by decide) ?_
  obtain ⟨u34, hu34, h⟩ := ob_some h
  refine x_callV (As := [.int _, .int _, .int _]) (n := 3) C (kX6_counts l D cI cS aM _ _ _ _ hu34) (fun hh => nomatch hh) wm_X6_60 wi_X6_counts we_X6_counts wz_X6 wc_X6_counts (by decide +kernel) rfl hP hD hS hA 0 3 rfl rfl rfl hl.1 dX6_fails_17 rfl (Nat.le_of_ble_eq_true rfl) ⟨Nat.le_of_ble_eq_true rfl, Nat.le_of_ble_eq_true rfl⟩ ⟨Nat.zero_le _, Nat.zero_le _⟩ (fun H locs hP hD hS => ?_)
  refine x_aload_n C dX6_fails_20 rfl hl 1 rfl ?_
  refine x_get C inX6 hP 0 rfl rfl 0 (by decide) wf_X6_7 rfl dX6_fails_21 ?_
  refine x_aload_n C dX6_fails_24 rfl hl 1 rfl ?_
  refine x_iload_n C dX6_fails_25 rfl hl 2 rfl ?_
  obtain ⟨u35, hu35, h⟩ := ob_some h
  refine x_callV (As := [.int _]) (n := 1) C (kX6_row l D cI cS aM _ _ hu35) (fun hh => nomatch hh) wm_X6_48 wi_X6_row we_X6_row wz_X6 wc_X6_row (by decide +kernel) rfl hP hD hS hA 0 3 rfl rfl rfl hl.1 dX6_fails_26 rfl (Nat.le_of_ble_eq_true rfl) ⟨Nat.le_of_ble_eq_true rfl, Nat.le_of_ble_eq_true rfl⟩ ⟨Nat.zero_le _, Nat.zero_le _⟩ (fun H locs hP hD hS => ?_)
  refine x_iconst (v := (3 : Int32)) C dX6_fails_29 (by decide) ?_
  refine x_iadd C dX6_fails_30 ?_
  refine x_iald C h hP 1 rfl (t0 := 0) rfl dX6_fails_31 (fun h => ?_)
  refine x_aload_n C dX6_fails_32 rfl hl 1 rfl ?_
  refine x_iload_n C dX6_fails_33 rfl hl 0 rfl ?_
  refine x_iconst (v := (3 : Int32)) C dX6_fails_34 (by decide) ?_
  obtain ⟨u36, hu36, h⟩ := ob_some h
  refine x_callV (As := [.int _, .int _]) (n := 2) C (kX6_of l D cI cS aM _ _ _ hu36) (fun hh => nomatch hh) wm_X6_44 wi_X6_of we_X6_of wz_X6 wc_X6_of (by decide +kernel) rfl hP hD hS hA 0 3 rfl rfl rfl hl.1 dX6_fails_35 rfl (Nat.le_of_ble_eq_true rfl) ⟨Nat.le_of_ble_eq_true rfl, Nat.le_of_ble_eq_true rfl⟩ ⟨Nat.zero_le _, Nat.zero_le _⟩ (fun H locs hP hD hS => ?_)
  refine x_icmp_ge (tgt := 65) C h dX6_fails_38 (by decide) (fun h => ?_) (fun h => ?_)
  · exact B65 _ _ h _ _ _ hP hD hS (lv_sub hl [1, 2, 0] rfl)
  · refine x_aload_n C dX6_fails_41 rfl hl 1 rfl ?_
    refine x_get C inX6 hP 0 rfl rfl 0 (by decide) wf_X6_7 rfl dX6_fails_42 ?_
    refine x_bipush (v := (90 : Int32)) C dX6_fails_45 (by decide) ?_
    refine x_bipush (v := (8 : Int32)) C dX6_fails_47 (by decide) ?_
    refine x_iload_n C dX6_fails_49 rfl hl 0 rfl ?_
    refine x_imul C dX6_fails_50 ?_
    refine x_iadd C dX6_fails_51 ?_
    refine x_bipush (v := (7 : Int32)) C dX6_fails_52 (by decide) ?_
    refine x_iadd C dX6_fails_54 ?_
    refine x_iald C h hP 1 rfl (t0 := 0) rfl dX6_fails_55 (fun h => ?_)
    refine x_bipush (v := (10 : Int32)) C dX6_fails_56 (by decide) ?_
    refine x_icmp_lt (tgt := 65) C h dX6_fails_58 (by decide) (fun h => ?_) (fun h => ?_)
    · exact B65 _ _ h _ _ _ hP hD hS (lv_sub hl [1, 2, 0] rfl)
    · refine x_iconst (v := (1 : Int32)) C dX6_fails_61 (by decide) ?_
      refine x_goto (tgt := 66) C dX6_fails_62 (by decide) ?_
      exact B66 _ _ _ h _ _ _ hP hD hS (lv_sub hl [1, 2, 0] rfl)
theorem dX6_isOn_0 : decode cX6_isOn 0 = .ok (.aload_n 0, 1) := by decide +kernel
theorem dX6_isOn_1 : decode cX6_isOn 1 = .ok (.getfield 7, 3) := by decide +kernel
theorem dX6_isOn_4 : decode cX6_isOn 4 = .ok (.sipush 179, 3) := by decide +kernel
theorem dX6_isOn_7 : decode cX6_isOn 7 = .ok (.iload_n 1, 1) := by decide +kernel
theorem dX6_isOn_8 : decode cX6_isOn 8 = .ok (.iadd, 1) := by decide +kernel
theorem dX6_isOn_9 : decode cX6_isOn 9 = .ok (.iaload, 1) := by decide +kernel
theorem dX6_isOn_10 : decode cX6_isOn 10 = .ok (.iconst 1, 1) := by decide +kernel
theorem dX6_isOn_11 : decode cX6_isOn 11 = .ok (.if_icmp .ne 7, 3) := by decide +kernel
theorem dX6_isOn_14 : decode cX6_isOn 14 = .ok (.iconst 1, 1) := by decide +kernel
theorem dX6_isOn_15 : decode cX6_isOn 15 = .ok (.goto 4, 3) := by decide +kernel
theorem dX6_isOn_18 : decode cX6_isOn 18 = .ok (.iconst 0, 1) := by decide +kernel
theorem dX6_isOn_19 : decode cX6_isOn 19 = .ok (.ireturn, 1) := by decide +kernel
def bfX6_isOn_19 (p1 : Int32) (S : MS) (s0 : Int32) : Option (Int32) :=
  (if s0 = 0 ∨ s0 = 1 then some s0 else none)
def fX6_isOn (p1 : Int32) (S : MS) : Option (Int32) :=
  (if okI ((179 : Int32) + p1) 5130 then (if (S.1 (((179 : Int32) + p1)).toNatClampNeg) = (1 : Int32) then bfX6_isOn_19 p1 S  ((1 : Int32)) else bfX6_isOn_19 p1 S  ((0 : Int32))) else none)
set_option maxHeartbeats 4000000 in
set_option maxRecDepth 100000 in
theorem kX6_isOn (l : Launch) (D : va_G) (cI cS : ClassId) (aM : Nat → Nat) (p1 : Int32) (S : MS) {q : Int32} (h : fX6_isOn p1 S = some q) : Mc l D (tyL cI cS) false yX6_isOn cX6_isOn 2 (some .boolean) 1 [.ref (aM 0), .int p1] (wM cI aM S) (some (.int q)) (wM cI aM S) := by
  refine Mc_of RX6 (by decide +kernel) rfl wc_X6_isOn (Nat.le_of_ble_eq_true rfl) ?_
  intro p e s m args below meth c A Q ls C hA hz hP hD hS hl RET
  have RETh : ∀ {pc : Nat} {ls : Array Slot} {H : Heap} {locs : List Loc} {x : Int32} , (x = 0 ∨ x = 1) → decode cX6_isOn pc = .ok (.ireturn, 1) → some x = some q → va_P D vwCl (wM cI aM S) H → va_D A (wM cI aM S) → va_S A s.heap H locs → W p l e (rmL 1) s m args below meth c H locs 0 0 Q (F0 m pc ls [.int x]) := by
    intro pc ls H locs x hx hd h hP hD hS; cases h; exact RET (x_zret C hx hd) hP hD hS
  have B19 : ∀ (s0 : Int32), bfX6_isOn_19 p1 S s0 = some q → ∀ (H : Heap) (locs : List Loc) (ls : Array Slot), va_P D vwCl (wM cI aM S) H → va_D A (wM cI aM S) → va_S A s.heap H locs → lv_has ls 2 [] → W p l e (rmL 1) s m args below meth c H locs 0 0 Q (F0 m 19 ls [.int s0]) := by
    intro s0 h H locs ls hP hD hS hl
    rcases x_ifn h with ⟨hc, h⟩
    exact RETh hc dX6_isOn_19 h hP hD hS
  refine x_aload_n C dX6_isOn_0 rfl hl 0 rfl ?_
  refine x_get C inX6 hP 0 rfl rfl 0 (by decide) wf_X6_7 rfl dX6_isOn_1 ?_
  refine x_sipush (v := (179 : Int32)) C dX6_isOn_4 (by decide) ?_
  refine x_iload_n C dX6_isOn_7 rfl hl 1 rfl ?_
  refine x_iadd C dX6_isOn_8 ?_
  refine x_iald C h hP 1 rfl (t0 := 0) rfl dX6_isOn_9 (fun h => ?_)
  refine x_iconst (v := (1 : Int32)) C dX6_isOn_10 (by decide) ?_
  refine x_icmp_ne (tgt := 18) C h dX6_isOn_11 (by decide) (fun h => ?_) (fun h => ?_)
  · refine x_iconst (v := (0 : Int32)) C dX6_isOn_18 (by decide) ?_
    exact B19 _ h _ _ _ hP hD hS (lv_sub hl [] rfl)
  · refine x_iconst (v := (1 : Int32)) C dX6_isOn_14 (by decide) ?_
    refine x_goto (tgt := 19) C dX6_isOn_15 (by decide) ?_
    exact B19 _ h _ _ _ hP hD hS (lv_sub hl [] rfl)
theorem dX6_placeOf_0 : decode cX6_placeOf 0 = .ok (.iconst 0, 1) := by decide +kernel
theorem dX6_placeOf_1 : decode cX6_placeOf 1 = .ok (.istore_n 2, 1) := by decide +kernel
theorem dX6_placeOf_2 : decode cX6_placeOf 2 = .ok (.iload_n 2, 1) := by decide +kernel
theorem dX6_placeOf_3 : decode cX6_placeOf 3 = .ok (.aload_n 0, 1) := by decide +kernel
theorem dX6_placeOf_4 : decode cX6_placeOf 4 = .ok (.getfield 7, 3) := by decide +kernel
theorem dX6_placeOf_7 : decode cX6_placeOf 7 = .ok (.sipush 188, 3) := by decide +kernel
theorem dX6_placeOf_10 : decode cX6_placeOf 10 = .ok (.iaload, 1) := by decide +kernel
theorem dX6_placeOf_11 : decode cX6_placeOf 11 = .ok (.if_icmp .ge 27, 3) := by decide +kernel
theorem dX6_placeOf_14 : decode cX6_placeOf 14 = .ok (.aload_n 0, 1) := by decide +kernel
theorem dX6_placeOf_15 : decode cX6_placeOf 15 = .ok (.getfield 7, 3) := by decide +kernel
theorem dX6_placeOf_18 : decode cX6_placeOf 18 = .ok (.aload_n 0, 1) := by decide +kernel
theorem dX6_placeOf_19 : decode cX6_placeOf 19 = .ok (.iload_n 2, 1) := by decide +kernel
theorem dX6_placeOf_20 : decode cX6_placeOf 20 = .ok (.invokevirtual 48, 3) := by decide +kernel
theorem dX6_placeOf_23 : decode cX6_placeOf 23 = .ok (.iconst 0, 1) := by decide +kernel
theorem dX6_placeOf_24 : decode cX6_placeOf 24 = .ok (.iadd, 1) := by decide +kernel
theorem dX6_placeOf_25 : decode cX6_placeOf 25 = .ok (.iaload, 1) := by decide +kernel
theorem dX6_placeOf_26 : decode cX6_placeOf 26 = .ok (.iload_n 1, 1) := by decide +kernel
theorem dX6_placeOf_27 : decode cX6_placeOf 27 = .ok (.if_icmp .ne 5, 3) := by decide +kernel
theorem dX6_placeOf_30 : decode cX6_placeOf 30 = .ok (.iload_n 2, 1) := by decide +kernel
theorem dX6_placeOf_31 : decode cX6_placeOf 31 = .ok (.ireturn, 1) := by decide +kernel
theorem dX6_placeOf_32 : decode cX6_placeOf 32 = .ok (.iinc 2 1, 3) := by decide +kernel
theorem dX6_placeOf_35 : decode cX6_placeOf 35 = .ok (.goto (-33), 3) := by decide +kernel
theorem dX6_placeOf_38 : decode cX6_placeOf 38 = .ok (.bipush (-9), 2) := by decide +kernel
theorem dX6_placeOf_40 : decode cX6_placeOf 40 = .ok (.ireturn, 1) := by decide +kernel
def bfX6_placeOf_2 (p1 : Int32) (S : MS) (K2 : Int32 → Option (Int32)) (x2 : Int32) : Option (Int32) :=
  (if (S.1 ((188 : Int32)).toNatClampNeg) ≤ x2 then some (-9 : Int32) else ob (fX6_row x2 S) fun u2 => (if okI (u2 + (0 : Int32)) 5130 then (if (S.1 ((u2 + (0 : Int32))).toNatClampNeg) = p1 then some x2 else K2 ((x2 + (1 : Int32)))) else none))
def fX6_placeOf (p1 : Int32) (S : MS) : Option (Int32) :=
  iter (bfX6_placeOf_2 p1 S) FU ((0 : Int32))
set_option maxHeartbeats 4000000 in
set_option maxRecDepth 100000 in
theorem kX6_placeOf (l : Launch) (D : va_G) (cI cS : ClassId) (aM : Nat → Nat) (p1 : Int32) (S : MS) {q : Int32} (h : fX6_placeOf p1 S = some q) : Mc l D (tyL cI cS) false yX6_placeOf cX6_placeOf 3 (some .int) 2 [.ref (aM 0), .int p1] (wM cI aM S) (some (.int q)) (wM cI aM S) := by
  refine Mc_of RX6 (by decide +kernel) rfl wc_X6_placeOf (Nat.le_of_ble_eq_true rfl) ?_
  intro p e s m args below meth c A Q ls C hA hz hP hD hS hl RET
  have RETh : ∀ {pc : Nat} {ls : Array Slot} {H : Heap} {locs : List Loc} {x : Int32} , decode cX6_placeOf pc = .ok (.ireturn, 1) → some x = some q → va_P D vwCl (wM cI aM S) H → va_D A (wM cI aM S) → va_S A s.heap H locs → W p l e (rmL 2) s m args below meth c H locs 0 0 Q (F0 m pc ls [.int x]) := by
    intro pc ls H locs x hd h hP hD hS; cases h; exact RET (x_iret C hd) hP hD hS
  have B2 : ∀ (n : Nat) (x : Int32), iter (bfX6_placeOf_2 p1 S) n x = some q → (fun (x2 : Int32) => ∀ (H : Heap) (locs : List Loc) (ls : Array Slot), va_P D vwCl (wM cI aM S) H → va_D A (wM cI aM S) → va_S A s.heap H locs → lv_has ls 3 [(0, .ref (aM 0)), (1, .int p1), (2, .int x2)] → W p l e (rmL 2) s m args below meth c H locs 0 0 Q (F0 m 2 ls [])) x := by
    refine iter_ind (fun x : Int32 => (fun (x2 : Int32) => ∀ (H : Heap) (locs : List Loc) (ls : Array Slot), va_P D vwCl (wM cI aM S) H → va_D A (wM cI aM S) → va_S A s.heap H locs → lv_has ls 3 [(0, .ref (aM 0)), (1, .int p1), (2, .int x2)] → W p l e (rmL 2) s m args below meth c H locs 0 0 Q (F0 m 2 ls [])) x) ?_
    intro K2 ih2 x h
    obtain ⟨x2, rfl⟩ : ∃ y, y = x := ⟨_, rfl⟩
    intro H locs ls hP hD hS hl
    refine x_iload_n C dX6_placeOf_2 rfl hl 2 rfl ?_
    refine x_aload_n C dX6_placeOf_3 rfl hl 0 rfl ?_
    refine x_get C inX6 hP 0 rfl rfl 0 (by decide) wf_X6_7 rfl dX6_placeOf_4 ?_
    refine x_sipush (v := (188 : Int32)) C dX6_placeOf_7 (by decide) ?_
    refine x_ialdK C (by decide) hP 1 rfl (t0 := 0) rfl dX6_placeOf_10 ?_
    refine x_icmp_ge (tgt := 38) C h dX6_placeOf_11 (by decide) (fun h => ?_) (fun h => ?_)
    · refine x_bipush (v := (-9 : Int32)) C dX6_placeOf_38 (by decide) ?_
      exact RETh dX6_placeOf_40 h hP hD hS
    · refine x_aload_n C dX6_placeOf_14 rfl hl 0 rfl ?_
      refine x_get C inX6 hP 0 rfl rfl 0 (by decide) wf_X6_7 rfl dX6_placeOf_15 ?_
      refine x_aload_n C dX6_placeOf_18 rfl hl 0 rfl ?_
      refine x_iload_n C dX6_placeOf_19 rfl hl 2 rfl ?_
      obtain ⟨u2, hu2, h⟩ := ob_some h
      refine x_callV (As := [.int _]) (n := 1) C (kX6_row l D cI cS aM _ _ hu2) (fun hh => nomatch hh) wm_X6_48 wi_X6_row we_X6_row wz_X6 wc_X6_row (by decide +kernel) rfl hP hD hS hA 0 3 rfl rfl rfl hl.1 dX6_placeOf_20 rfl (Nat.le_of_ble_eq_true rfl) ⟨Nat.le_of_ble_eq_true rfl, Nat.le_of_ble_eq_true rfl⟩ ⟨Nat.zero_le _, Nat.zero_le _⟩ (fun H locs hP hD hS => ?_)
      refine x_iconst (v := (0 : Int32)) C dX6_placeOf_23 (by decide) ?_
      refine x_iadd C dX6_placeOf_24 ?_
      refine x_iald C h hP 1 rfl (t0 := 0) rfl dX6_placeOf_25 (fun h => ?_)
      refine x_iload_n C dX6_placeOf_26 rfl hl 1 rfl ?_
      refine x_icmp_ne (tgt := 32) C h dX6_placeOf_27 (by decide) (fun h => ?_) (fun h => ?_)
      · refine x_iinc (v := (x2 + (1 : Int32))) (lv' := [(2, .int (x2 + (1 : Int32))), (0, .ref (aM 0)), (1, .int p1)]) C dX6_placeOf_32 hl (k := 2) rfl rfl (by decide) rfl (fun ls hl => ?_)
        refine x_goto (tgt := 2) C dX6_placeOf_35 (by decide) ?_
        exact ih2 _ h _ _ _ hP hD hS (lv_sub hl [1, 2, 0] rfl)
      · refine x_iload_n C dX6_placeOf_30 rfl hl 2 rfl ?_
        exact RETh dX6_placeOf_31 h hP hD hS
  refine x_iconst (v := (0 : Int32)) C dX6_placeOf_0 (by decide) ?_
  refine x_istore_n (lv' := [(2, .int (0 : Int32)), (0, .ref (aM 0)), (1, .int p1)]) C dX6_placeOf_1 rfl hl (by decide) rfl (fun ls hl => ?_)
  exact B2 FU _ h _ _ _ hP hD hS (lv_sub hl [1, 2, 0] rfl)
theorem dX6_abandons_0 : decode cX6_abandons 0 = .ok (.aload_n 0, 1) := by decide +kernel
theorem dX6_abandons_1 : decode cX6_abandons 1 = .ok (.iload_n 1, 1) := by decide +kernel
theorem dX6_abandons_2 : decode cX6_abandons 2 = .ok (.invokevirtual 84, 3) := by decide +kernel
theorem dX6_abandons_5 : decode cX6_abandons 5 = .ok (.istore_n 2, 1) := by decide +kernel
theorem dX6_abandons_6 : decode cX6_abandons 6 = .ok (.aload_n 0, 1) := by decide +kernel
theorem dX6_abandons_7 : decode cX6_abandons 7 = .ok (.getfield 7, 3) := by decide +kernel
theorem dX6_abandons_10 : decode cX6_abandons 10 = .ok (.aload_n 0, 1) := by decide +kernel
theorem dX6_abandons_11 : decode cX6_abandons 11 = .ok (.iload_n 2, 1) := by decide +kernel
theorem dX6_abandons_12 : decode cX6_abandons 12 = .ok (.invokevirtual 48, 3) := by decide +kernel
theorem dX6_abandons_15 : decode cX6_abandons 15 = .ok (.bipush 7, 2) := by decide +kernel
theorem dX6_abandons_17 : decode cX6_abandons 17 = .ok (.iadd, 1) := by decide +kernel
theorem dX6_abandons_18 : decode cX6_abandons 18 = .ok (.iaload, 1) := by decide +kernel
theorem dX6_abandons_19 : decode cX6_abandons 19 = .ok (.istore_n 3, 1) := by decide +kernel
theorem dX6_abandons_20 : decode cX6_abandons 20 = .ok (.aload_n 0, 1) := by decide +kernel
theorem dX6_abandons_21 : decode cX6_abandons 21 = .ok (.getfield 7, 3) := by decide +kernel
theorem dX6_abandons_24 : decode cX6_abandons 24 = .ok (.aload_n 0, 1) := by decide +kernel
theorem dX6_abandons_25 : decode cX6_abandons 25 = .ok (.iload_n 3, 1) := by decide +kernel
theorem dX6_abandons_26 : decode cX6_abandons 26 = .ok (.invokevirtual 74, 3) := by decide +kernel
theorem dX6_abandons_29 : decode cX6_abandons 29 = .ok (.iconst 0, 1) := by decide +kernel
theorem dX6_abandons_30 : decode cX6_abandons 30 = .ok (.iadd, 1) := by decide +kernel
theorem dX6_abandons_31 : decode cX6_abandons 31 = .ok (.bipush (-8), 2) := by decide +kernel
theorem dX6_abandons_33 : decode cX6_abandons 33 = .ok (.iastore, 1) := by decide +kernel
theorem dX6_abandons_34 : decode cX6_abandons 34 = .ok (.aload_n 0, 1) := by decide +kernel
theorem dX6_abandons_35 : decode cX6_abandons 35 = .ok (.iconst 2, 1) := by decide +kernel
theorem dX6_abandons_36 : decode cX6_abandons 36 = .ok (.invokevirtual 93, 3) := by decide +kernel
theorem dX6_abandons_39 : decode cX6_abandons 39 = .ok (.ifCond .eq 8, 3) := by decide +kernel
theorem dX6_abandons_42 : decode cX6_abandons 42 = .ok (.aload_n 0, 1) := by decide +kernel
theorem dX6_abandons_43 : decode cX6_abandons 43 = .ok (.iload_n 3, 1) := by decide +kernel
theorem dX6_abandons_44 : decode cX6_abandons 44 = .ok (.invokevirtual 124, 3) := by decide +kernel
theorem dX6_abandons_47 : decode cX6_abandons 47 = .ok (.aload_n 0, 1) := by decide +kernel
theorem dX6_abandons_48 : decode cX6_abandons 48 = .ok (.iload_n 2, 1) := by decide +kernel
theorem dX6_abandons_49 : decode cX6_abandons 49 = .ok (.iconst 5, 1) := by decide +kernel
theorem dX6_abandons_50 : decode cX6_abandons 50 = .ok (.invokevirtual 87, 3) := by decide +kernel
theorem dX6_abandons_53 : decode cX6_abandons 53 = .ok (.return_, 1) := by decide +kernel
def bfX6_abandons_47 (p1 : Int32) (x2 : Int32) (S : MS) : Option (MS) :=
  ob (fX6_fails x2 (5 : Int32) S) fun u9 => some u9
def fX6_abandons (p1 : Int32) (S : MS) : Option (MS) :=
  ob (fX6_placeOf p1 S) fun u10 => ob (fX6_row u10 S) fun u11 => (if okI (u11 + (7 : Int32)) 5130 then nm ((S.1 ((u11 + (7 : Int32))).toNatClampNeg)) fun v12 => ob (fX6_slot v12 S) fun u13 => (if okI (u13 + (0 : Int32)) 5130 then nm (upd S.1 ((u13 + (0 : Int32))).toNatClampNeg (-8 : Int32), S.2) fun S14 => ob (fX6_isOn (2 : Int32) S14) fun u15 => (if u15 = 0 then bfX6_abandons_47 p1  u10 S14 else ob (fX6_cancels v12 S14) fun u16 => bfX6_abandons_47 p1  u10 u16) else none) else none)
set_option maxHeartbeats 4000000 in
set_option maxRecDepth 100000 in
theorem kX6_abandons (l : Launch) (D : va_G) (cI cS : ClassId) (aM : Nat → Nat) (p1 : Int32) (S : MS) {q : MS} (h : fX6_abandons p1 S = some q) : Mc l D (tyL cI cS) false yX6_abandons cX6_abandons 4 none 4 [.ref (aM 0), .int p1] (wM cI aM S) none (wM cI aM q) := by
  refine Mc_of RX6 (by decide +kernel) rfl wc_X6_abandons (Nat.le_of_ble_eq_true rfl) ?_
  intro p e s m args below meth c A Q ls C hA hz hP hD hS hl RET
  have RETh : ∀ {pc : Nat} {ls : Array Slot} {H : Heap} {locs : List Loc} {S1 : MS}, decode cX6_abandons pc = .ok (.return_, 1) → some S1 = some q → va_P D vwCl (wM cI aM S1) H → va_D A (wM cI aM S1) → va_S A s.heap H locs → W p l e (rmL 4) s m args below meth c H locs 0 0 Q (F0 m pc ls []) := by
    intro pc ls H locs S1 hd h hP hD hS; cases h; exact RET (x_vret C hd) hP hD hS
  have B47 : ∀ (x2 : Int32) (S : MS), bfX6_abandons_47 p1 x2 S = some q → ∀ (H : Heap) (locs : List Loc) (ls : Array Slot), va_P D vwCl (wM cI aM S) H → va_D A (wM cI aM S) → va_S A s.heap H locs → lv_has ls 4 [(0, .ref (aM 0)), (2, .int x2)] → W p l e (rmL 4) s m args below meth c H locs 0 0 Q (F0 m 47 ls []) := by
    intro x2 S h H locs ls hP hD hS hl
    refine x_aload_n C dX6_abandons_47 rfl hl 0 rfl ?_
    refine x_iload_n C dX6_abandons_48 rfl hl 1 rfl ?_
    refine x_iconst (v := (5 : Int32)) C dX6_abandons_49 (by decide) ?_
    obtain ⟨u9, hu9, h⟩ := ob_some h
    refine x_callV (As := [.int _, .int _]) (n := 2) C (kX6_fails l D cI cS aM _ _ _ hu9) (fun hh => nomatch hh) wm_X6_87 wi_X6_fails we_X6_fails wz_X6 wc_X6_fails (by decide +kernel) rfl hP hD hS hA 0 3 rfl rfl rfl hl.1 dX6_abandons_50 rfl (Nat.le_of_ble_eq_true rfl) ⟨Nat.le_of_ble_eq_true rfl, Nat.le_of_ble_eq_true rfl⟩ ⟨Nat.zero_le _, Nat.zero_le _⟩ (fun H locs hP hD hS => ?_)
    exact RETh dX6_abandons_53 h hP hD hS
  refine x_aload_n C dX6_abandons_0 rfl hl 0 rfl ?_
  refine x_iload_n C dX6_abandons_1 rfl hl 1 rfl ?_
  obtain ⟨u10, hu10, h⟩ := ob_some h
  refine x_callV (As := [.int _]) (n := 1) C (kX6_placeOf l D cI cS aM _ _ hu10) (fun hh => nomatch hh) wm_X6_84 wi_X6_placeOf we_X6_placeOf wz_X6 wc_X6_placeOf (by decide +kernel) rfl hP hD hS hA 0 3 rfl rfl rfl hl.1 dX6_abandons_2 rfl (Nat.le_of_ble_eq_true rfl) ⟨Nat.le_of_ble_eq_true rfl, Nat.le_of_ble_eq_true rfl⟩ ⟨Nat.zero_le _, Nat.zero_le _⟩ (fun H locs hP hD hS => ?_)
  refine x_istore_n (lv' := [(2, .int u10), (0, .ref (aM 0)), (1, .int p1)]) C dX6_abandons_5 rfl hl (by decide) rfl (fun ls hl => ?_)
  refine x_aload_n C dX6_abandons_6 rfl hl 1 rfl ?_
  refine x_get C inX6 hP 0 rfl rfl 0 (by decide) wf_X6_7 rfl dX6_abandons_7 ?_
  refine x_aload_n C dX6_abandons_10 rfl hl 1 rfl ?_
  refine x_iload_n C dX6_abandons_11 rfl hl 0 rfl ?_
  obtain ⟨u11, hu11, h⟩ := ob_some h
  refine x_callV (As := [.int _]) (n := 1) C (kX6_row l D cI cS aM _ _ hu11) (fun hh => nomatch hh) wm_X6_48 wi_X6_row we_X6_row wz_X6 wc_X6_row (by decide +kernel) rfl hP hD hS hA 0 3 rfl rfl rfl hl.1 dX6_abandons_12 rfl (Nat.le_of_ble_eq_true rfl) ⟨Nat.le_of_ble_eq_true rfl, Nat.le_of_ble_eq_true rfl⟩ ⟨Nat.zero_le _, Nat.zero_le _⟩ (fun H locs hP hD hS => ?_)
  refine x_bipush (v := (7 : Int32)) C dX6_abandons_15 (by decide) ?_
  refine x_iadd C dX6_abandons_17 ?_
  refine x_iald C h hP 1 rfl (t0 := 0) rfl dX6_abandons_18 (fun h => ?_)
  refine x_nmi h (fun v12 h => ?_)
  refine x_istore_n (lv' := [(3, .int v12), (2, .int u10), (0, .ref (aM 0)), (1, .int p1)]) C dX6_abandons_19 rfl hl (by decide) rfl (fun ls hl => ?_)
  refine x_aload_n C dX6_abandons_20 rfl hl 2 rfl ?_
  refine x_get C inX6 hP 0 rfl rfl 0 (by decide) wf_X6_7 rfl dX6_abandons_21 ?_
  refine x_aload_n C dX6_abandons_24 rfl hl 2 rfl ?_
  refine x_iload_n C dX6_abandons_25 rfl hl 0 rfl ?_
  obtain ⟨u13, hu13, h⟩ := ob_some h
  refine x_callV (As := [.int _]) (n := 1) C (kX6_slot l D cI cS aM _ _ hu13) (fun hh => nomatch hh) wm_X6_74 wi_X6_slot we_X6_slot wz_X6 wc_X6_slot (by decide +kernel) rfl hP hD hS hA 0 3 rfl rfl rfl hl.1 dX6_abandons_26 rfl (Nat.le_of_ble_eq_true rfl) ⟨Nat.le_of_ble_eq_true rfl, Nat.le_of_ble_eq_true rfl⟩ ⟨Nat.zero_le _, Nat.zero_le _⟩ (fun H locs hP hD hS => ?_)
  refine x_iconst (v := (0 : Int32)) C dX6_abandons_29 (by decide) ?_
  refine x_iadd C dX6_abandons_30 ?_
  refine x_bipush (v := (-8 : Int32)) C dX6_abandons_31 (by decide) ?_
  refine x_iastM (wM cI aM) C h hP hD hS 1 rfl (t0 := 0) rfl rfl dX6_abandons_33 (fun S14 h H locs hP hD hS => ?_)
  refine x_aload_n C dX6_abandons_34 rfl hl 2 rfl ?_
  refine x_iconst (v := (2 : Int32)) C dX6_abandons_35 (by decide) ?_
  obtain ⟨u15, hu15, h⟩ := ob_some h
  refine x_callV (As := [.int _]) (n := 1) C (kX6_isOn l D cI cS aM _ _ hu15) (fun hh => nomatch hh) wm_X6_93 wi_X6_isOn we_X6_isOn wz_X6 wc_X6_isOn (by decide +kernel) rfl hP hD hS hA 0 3 rfl rfl rfl hl.1 dX6_abandons_36 rfl (Nat.le_of_ble_eq_true rfl) ⟨Nat.le_of_ble_eq_true rfl, Nat.le_of_ble_eq_true rfl⟩ ⟨Nat.zero_le _, Nat.zero_le _⟩ (fun H locs hP hD hS => ?_)
  refine x_if_eq (tgt := 47) C h dX6_abandons_39 (by decide) (fun h => ?_) (fun h => ?_)
  · exact B47 _ _ h _ _ _ hP hD hS (lv_sub hl [2, 1] rfl)
  · refine x_aload_n C dX6_abandons_42 rfl hl 2 rfl ?_
    refine x_iload_n C dX6_abandons_43 rfl hl 0 rfl ?_
    obtain ⟨u16, hu16, h⟩ := ob_some h
    refine x_callV (As := [.int _]) (n := 1) C (kX6_cancels l D cI cS aM _ _ hu16) (fun hh => nomatch hh) wm_X6_124 wi_X6_cancels we_X6_cancels wz_X6 wc_X6_cancels (by decide +kernel) rfl hP hD hS hA 0 3 rfl rfl rfl hl.1 dX6_abandons_44 rfl (Nat.le_of_ble_eq_true rfl) ⟨Nat.le_of_ble_eq_true rfl, Nat.le_of_ble_eq_true rfl⟩ ⟨Nat.zero_le _, Nat.zero_le _⟩ (fun H locs hP hD hS => ?_)
    exact B47 _ _ h _ _ _ hP hD hS (lv_sub hl [2, 1] rfl)
theorem dX6_amplification_0 : decode cX6_amplification 0 = .ok (.lconst 0, 1) := by decide +kernel
theorem dX6_amplification_1 : decode cX6_amplification 1 = .ok (.lstore_n 1, 1) := by decide +kernel
theorem dX6_amplification_2 : decode cX6_amplification 2 = .ok (.lconst 0, 1) := by decide +kernel
theorem dX6_amplification_3 : decode cX6_amplification 3 = .ok (.lstore_n 3, 1) := by decide +kernel
theorem dX6_amplification_4 : decode cX6_amplification 4 = .ok (.iconst 0, 1) := by decide +kernel
theorem dX6_amplification_5 : decode cX6_amplification 5 = .ok (.istore 5, 2) := by decide +kernel
theorem dX6_amplification_7 : decode cX6_amplification 7 = .ok (.iload 5, 2) := by decide +kernel
theorem dX6_amplification_9 : decode cX6_amplification 9 = .ok (.bipush 6, 2) := by decide +kernel
theorem dX6_amplification_11 : decode cX6_amplification 11 = .ok (.if_icmp .ge 47, 3) := by decide +kernel
theorem dX6_amplification_14 : decode cX6_amplification 14 = .ok (.lload_n 1, 1) := by decide +kernel
theorem dX6_amplification_15 : decode cX6_amplification 15 = .ok (.aload_n 0, 1) := by decide +kernel
theorem dX6_amplification_16 : decode cX6_amplification 16 = .ok (.getfield 7, 3) := by decide +kernel
theorem dX6_amplification_19 : decode cX6_amplification 19 = .ok (.bipush 90, 2) := by decide +kernel
theorem dX6_amplification_21 : decode cX6_amplification 21 = .ok (.bipush 8, 2) := by decide +kernel
theorem dX6_amplification_23 : decode cX6_amplification 23 = .ok (.iload 5, 2) := by decide +kernel
theorem dX6_amplification_25 : decode cX6_amplification 25 = .ok (.imul, 1) := by decide +kernel
theorem dX6_amplification_26 : decode cX6_amplification 26 = .ok (.iadd, 1) := by decide +kernel
theorem dX6_amplification_27 : decode cX6_amplification 27 = .ok (.iconst 1, 1) := by decide +kernel
theorem dX6_amplification_28 : decode cX6_amplification 28 = .ok (.iadd, 1) := by decide +kernel
theorem dX6_amplification_29 : decode cX6_amplification 29 = .ok (.iaload, 1) := by decide +kernel
theorem dX6_amplification_30 : decode cX6_amplification 30 = .ok (.i2l, 1) := by decide +kernel
theorem dX6_amplification_31 : decode cX6_amplification 31 = .ok (.ladd, 1) := by decide +kernel
theorem dX6_amplification_32 : decode cX6_amplification 32 = .ok (.lstore_n 1, 1) := by decide +kernel
theorem dX6_amplification_33 : decode cX6_amplification 33 = .ok (.lload_n 3, 1) := by decide +kernel
theorem dX6_amplification_34 : decode cX6_amplification 34 = .ok (.aload_n 0, 1) := by decide +kernel
theorem dX6_amplification_35 : decode cX6_amplification 35 = .ok (.getfield 7, 3) := by decide +kernel
theorem dX6_amplification_38 : decode cX6_amplification 38 = .ok (.bipush 90, 2) := by decide +kernel
theorem dX6_amplification_40 : decode cX6_amplification 40 = .ok (.bipush 8, 2) := by decide +kernel
theorem dX6_amplification_42 : decode cX6_amplification 42 = .ok (.iload 5, 2) := by decide +kernel
theorem dX6_amplification_44 : decode cX6_amplification 44 = .ok (.imul, 1) := by decide +kernel
theorem dX6_amplification_45 : decode cX6_amplification 45 = .ok (.iadd, 1) := by decide +kernel
theorem dX6_amplification_46 : decode cX6_amplification 46 = .ok (.iconst 0, 1) := by decide +kernel
theorem dX6_amplification_47 : decode cX6_amplification 47 = .ok (.iadd, 1) := by decide +kernel
theorem dX6_amplification_48 : decode cX6_amplification 48 = .ok (.iaload, 1) := by decide +kernel
theorem dX6_amplification_49 : decode cX6_amplification 49 = .ok (.i2l, 1) := by decide +kernel
theorem dX6_amplification_50 : decode cX6_amplification 50 = .ok (.ladd, 1) := by decide +kernel
theorem dX6_amplification_51 : decode cX6_amplification 51 = .ok (.lstore_n 3, 1) := by decide +kernel
theorem dX6_amplification_52 : decode cX6_amplification 52 = .ok (.iinc 5 1, 3) := by decide +kernel
theorem dX6_amplification_55 : decode cX6_amplification 55 = .ok (.goto (-48), 3) := by decide +kernel
theorem dX6_amplification_58 : decode cX6_amplification 58 = .ok (.lload_n 3, 1) := by decide +kernel
theorem dX6_amplification_59 : decode cX6_amplification 59 = .ok (.lconst 0, 1) := by decide +kernel
theorem dX6_amplification_60 : decode cX6_amplification 60 = .ok (.lcmp, 1) := by decide +kernel
theorem dX6_amplification_61 : decode cX6_amplification 61 = .ok (.ifCond .ne 7, 3) := by decide +kernel
theorem dX6_amplification_64 : decode cX6_amplification 64 = .ok (.iconst 0, 1) := by decide +kernel
theorem dX6_amplification_65 : decode cX6_amplification 65 = .ok (.goto 11, 3) := by decide +kernel
theorem dX6_amplification_68 : decode cX6_amplification 68 = .ok (.ldc2_w 187, 3) := by decide +kernel
theorem dX6_amplification_71 : decode cX6_amplification 71 = .ok (.lload_n 1, 1) := by decide +kernel
theorem dX6_amplification_72 : decode cX6_amplification 72 = .ok (.lmul, 1) := by decide +kernel
theorem dX6_amplification_73 : decode cX6_amplification 73 = .ok (.lload_n 3, 1) := by decide +kernel
theorem dX6_amplification_74 : decode cX6_amplification 74 = .ok (.ldiv, 1) := by decide +kernel
theorem dX6_amplification_75 : decode cX6_amplification 75 = .ok (.l2i, 1) := by decide +kernel
theorem dX6_amplification_76 : decode cX6_amplification 76 = .ok (.ireturn, 1) := by decide +kernel
def bfX6_amplification_76 (S : MS) (s0 : Int32) : Option (Int32) :=
  some s0
def bfX6_amplification_7 (S : MS) (K7 : Int64 × Int64 × Int32 → Option (Int32)) (x : Int64 × Int64 × Int32) : Option (Int32) :=
  match x with
  | (x1, x3, x5) => (if (6 : Int32) ≤ x5 then (if (lg_cmp x3 (0 : Int64)) = 0 then bfX6_amplification_76 S  ((0 : Int32)) else (if x3 = 0 then none else bfX6_amplification_76 S  (((((100 : Int64) * x1) / x3)).toInt32))) else (if okI (((90 : Int32) + ((8 : Int32) * x5)) + (1 : Int32)) 5130 then nm ((x1 + ((S.1 ((((90 : Int32) + ((8 : Int32) * x5)) + (1 : Int32))).toNatClampNeg)).toInt64)) fun v3 => (if okI (((90 : Int32) + ((8 : Int32) * x5)) + (0 : Int32)) 5130 then nm ((x3 + ((S.1 ((((90 : Int32) + ((8 : Int32) * x5)) + (0 : Int32))).toNatClampNeg)).toInt64)) fun v4 => K7 (v3, v4, (x5 + (1 : Int32))) else none) else none))
def fX6_amplification (S : MS) : Option (Int32) :=
  iter (bfX6_amplification_7 S) FU ((0 : Int64), (0 : Int64), (0 : Int32))
set_option maxHeartbeats 4000000 in
set_option maxRecDepth 100000 in
theorem kX6_amplification (l : Launch) (D : va_G) (cI cS : ClassId) (aM : Nat → Nat) (S : MS) {q : Int32} (h : fX6_amplification S = some q) : Mc l D (tyL cI cS) false yX6_amplification cX6_amplification 6 (some .int) 1 [.ref (aM 0)] (wM cI aM S) (some (.int q)) (wM cI aM S) := by
  refine Mc_of RX6 (by decide +kernel) rfl wc_X6_amplification (Nat.le_of_ble_eq_true rfl) ?_
  intro p e s m args below meth c A Q ls C hA hz hP hD hS hl RET
  have RETh : ∀ {pc : Nat} {ls : Array Slot} {H : Heap} {locs : List Loc} {x : Int32} , decode cX6_amplification pc = .ok (.ireturn, 1) → some x = some q → va_P D vwCl (wM cI aM S) H → va_D A (wM cI aM S) → va_S A s.heap H locs → W p l e (rmL 1) s m args below meth c H locs 0 0 Q (F0 m pc ls [.int x]) := by
    intro pc ls H locs x hd h hP hD hS; cases h; exact RET (x_iret C hd) hP hD hS
  have B76 : ∀ (s0 : Int32), bfX6_amplification_76 S s0 = some q → ∀ (H : Heap) (locs : List Loc) (ls : Array Slot), va_P D vwCl (wM cI aM S) H → va_D A (wM cI aM S) → va_S A s.heap H locs → lv_has ls 6 [] → W p l e (rmL 1) s m args below meth c H locs 0 0 Q (F0 m 76 ls [.int s0]) := by
    intro s0 h H locs ls hP hD hS hl
    exact RETh dX6_amplification_76 h hP hD hS
  have B7 : ∀ (n : Nat) (x : Int64 × Int64 × Int32), iter (bfX6_amplification_7 S) n x = some q → (match x with | (x1, x3, x5) => ∀ (H : Heap) (locs : List Loc) (ls : Array Slot), va_P D vwCl (wM cI aM S) H → va_D A (wM cI aM S) → va_S A s.heap H locs → lv_has ls 6 [(0, .ref (aM 0)), (1, .long x1), (3, .long x3), (5, .int x5)] → W p l e (rmL 1) s m args below meth c H locs 0 0 Q (F0 m 7 ls [])) := by
    refine iter_ind (fun x : Int64 × Int64 × Int32 => (match x with | (x1, x3, x5) => ∀ (H : Heap) (locs : List Loc) (ls : Array Slot), va_P D vwCl (wM cI aM S) H → va_D A (wM cI aM S) → va_S A s.heap H locs → lv_has ls 6 [(0, .ref (aM 0)), (1, .long x1), (3, .long x3), (5, .int x5)] → W p l e (rmL 1) s m args below meth c H locs 0 0 Q (F0 m 7 ls []))) ?_
    intro K7 ih7 x h
    obtain ⟨x1, x3, x5⟩ := x
    intro H locs ls hP hD hS hl
    refine x_iload C dX6_amplification_7 hl 3 rfl ?_
    refine x_bipush (v := (6 : Int32)) C dX6_amplification_9 (by decide) ?_
    refine x_icmp_ge (tgt := 58) C h dX6_amplification_11 (by decide) (fun h => ?_) (fun h => ?_)
    · refine x_lload_n C dX6_amplification_58 rfl hl 2 rfl ?_
      refine x_lconst (v := (0 : Int64)) C dX6_amplification_59 (by decide) ?_
      refine x_lcmp C dX6_amplification_60 ?_
      refine x_if_ne (tgt := 68) C h dX6_amplification_61 (by decide) (fun h => ?_) (fun h => ?_)
      · refine x_ldc2 C wq_X6_187 dX6_amplification_68 ?_
        refine x_lload_n C dX6_amplification_71 rfl hl 1 rfl ?_
        refine x_lmul C dX6_amplification_72 ?_
        refine x_lload_n C dX6_amplification_73 rfl hl 2 rfl ?_
        refine x_ldiv C h dX6_amplification_74 (fun h => ?_)
        refine x_l2i C dX6_amplification_75 ?_
        exact B76 _ h _ _ _ hP hD hS (lv_sub hl [] rfl)
      · refine x_iconst (v := (0 : Int32)) C dX6_amplification_64 (by decide) ?_
        refine x_goto (tgt := 76) C dX6_amplification_65 (by decide) ?_
        exact B76 _ h _ _ _ hP hD hS (lv_sub hl [] rfl)
    · refine x_lload_n C dX6_amplification_14 rfl hl 1 rfl ?_
      refine x_aload_n C dX6_amplification_15 rfl hl 0 rfl ?_
      refine x_get C inX6 hP 0 rfl rfl 0 (by decide) wf_X6_7 rfl dX6_amplification_16 ?_
      refine x_bipush (v := (90 : Int32)) C dX6_amplification_19 (by decide) ?_
      refine x_bipush (v := (8 : Int32)) C dX6_amplification_21 (by decide) ?_
      refine x_iload C dX6_amplification_23 hl 3 rfl ?_
      refine x_imul C dX6_amplification_25 ?_
      refine x_iadd C dX6_amplification_26 ?_
      refine x_iconst (v := (1 : Int32)) C dX6_amplification_27 (by decide) ?_
      refine x_iadd C dX6_amplification_28 ?_
      refine x_iald C h hP 1 rfl (t0 := 0) rfl dX6_amplification_29 (fun h => ?_)
      refine x_i2l C dX6_amplification_30 ?_
      refine x_ladd C dX6_amplification_31 ?_
      refine x_nml h (fun v3 h => ?_)
      refine x_lstore_n (lv' := [(1, .long v3), (0, .ref (aM 0)), (3, .long x3), (5, .int x5)]) C dX6_amplification_32 rfl hl (by decide) rfl (fun ls hl => ?_)
      refine x_lload_n C dX6_amplification_33 rfl hl 2 rfl ?_
      refine x_aload_n C dX6_amplification_34 rfl hl 1 rfl ?_
      refine x_get C inX6 hP 0 rfl rfl 0 (by decide) wf_X6_7 rfl dX6_amplification_35 ?_
      refine x_bipush (v := (90 : Int32)) C dX6_amplification_38 (by decide) ?_
      refine x_bipush (v := (8 : Int32)) C dX6_amplification_40 (by decide) ?_
      refine x_iload C dX6_amplification_42 hl 3 rfl ?_
      refine x_imul C dX6_amplification_44 ?_
      refine x_iadd C dX6_amplification_45 ?_
      refine x_iconst (v := (0 : Int32)) C dX6_amplification_46 (by decide) ?_
      refine x_iadd C dX6_amplification_47 ?_
      refine x_iald C h hP 1 rfl (t0 := 0) rfl dX6_amplification_48 (fun h => ?_)
      refine x_i2l C dX6_amplification_49 ?_
      refine x_ladd C dX6_amplification_50 ?_
      refine x_nml h (fun v4 h => ?_)
      refine x_lstore_n (lv' := [(3, .long v4), (1, .long v3), (0, .ref (aM 0)), (5, .int x5)]) C dX6_amplification_51 rfl hl (by decide) rfl (fun ls hl => ?_)
      refine x_iinc (v := (x5 + (1 : Int32))) (lv' := [(5, .int (x5 + (1 : Int32))), (3, .long v4), (1, .long v3), (0, .ref (aM 0))]) C dX6_amplification_52 hl (k := 3) rfl rfl (by decide) rfl (fun ls hl => ?_)
      refine x_goto (tgt := 7) C dX6_amplification_55 (by decide) ?_
      exact ih7 _ h _ _ _ hP hD hS (lv_sub hl [3, 2, 1, 0] rfl)
  refine x_lconst (v := (0 : Int64)) C dX6_amplification_0 (by decide) ?_
  refine x_lstore_n (lv' := [(1, .long (0 : Int64)), (0, .ref (aM 0))]) C dX6_amplification_1 rfl hl (by decide) rfl (fun ls hl => ?_)
  refine x_lconst (v := (0 : Int64)) C dX6_amplification_2 (by decide) ?_
  refine x_lstore_n (lv' := [(3, .long (0 : Int64)), (1, .long (0 : Int64)), (0, .ref (aM 0))]) C dX6_amplification_3 rfl hl (by decide) rfl (fun ls hl => ?_)
  refine x_iconst (v := (0 : Int32)) C dX6_amplification_4 (by decide) ?_
  refine x_istore (lv' := [(5, .int (0 : Int32)), (3, .long (0 : Int64)), (1, .long (0 : Int64)), (0, .ref (aM 0))]) C dX6_amplification_5 hl (by decide) rfl (fun ls hl => ?_)
  exact B7 FU _ h _ _ _ hP hD hS (lv_sub hl [3, 2, 1, 0] rfl)
theorem dX6_answers_0 : decode cX6_answers 0 = .ok (.aload_n 0, 1) := by decide +kernel
theorem dX6_answers_1 : decode cX6_answers 1 = .ok (.getfield 7, 3) := by decide +kernel
theorem dX6_answers_4 : decode cX6_answers 4 = .ok (.aload_n 0, 1) := by decide +kernel
theorem dX6_answers_5 : decode cX6_answers 5 = .ok (.iload_n 1, 1) := by decide +kernel
theorem dX6_answers_6 : decode cX6_answers 6 = .ok (.invokevirtual 74, 3) := by decide +kernel
theorem dX6_answers_9 : decode cX6_answers 9 = .ok (.iconst 0, 1) := by decide +kernel
theorem dX6_answers_10 : decode cX6_answers 10 = .ok (.iadd, 1) := by decide +kernel
theorem dX6_answers_11 : decode cX6_answers 11 = .ok (.iaload, 1) := by decide +kernel
theorem dX6_answers_12 : decode cX6_answers 12 = .ok (.istore_n 2, 1) := by decide +kernel
theorem dX6_answers_13 : decode cX6_answers 13 = .ok (.aload_n 0, 1) := by decide +kernel
theorem dX6_answers_14 : decode cX6_answers 14 = .ok (.iload_n 1, 1) := by decide +kernel
theorem dX6_answers_15 : decode cX6_answers 15 = .ok (.iload_n 2, 1) := by decide +kernel
theorem dX6_answers_16 : decode cX6_answers 16 = .ok (.bipush (-8), 2) := by decide +kernel
theorem dX6_answers_18 : decode cX6_answers 18 = .ok (.if_icmp .eq 7, 3) := by decide +kernel
theorem dX6_answers_21 : decode cX6_answers 21 = .ok (.iconst 1, 1) := by decide +kernel
theorem dX6_answers_22 : decode cX6_answers 22 = .ok (.goto 4, 3) := by decide +kernel
theorem dX6_answers_25 : decode cX6_answers 25 = .ok (.iconst 0, 1) := by decide +kernel
theorem dX6_answers_26 : decode cX6_answers 26 = .ok (.invokevirtual 80, 3) := by decide +kernel
theorem dX6_answers_29 : decode cX6_answers 29 = .ok (.iload_n 2, 1) := by decide +kernel
theorem dX6_answers_30 : decode cX6_answers 30 = .ok (.bipush (-8), 2) := by decide +kernel
theorem dX6_answers_32 : decode cX6_answers 32 = .ok (.if_icmp .eq 79, 3) := by decide +kernel
theorem dX6_answers_35 : decode cX6_answers 35 = .ok (.aload_n 0, 1) := by decide +kernel
theorem dX6_answers_36 : decode cX6_answers 36 = .ok (.iload_n 2, 1) := by decide +kernel
theorem dX6_answers_37 : decode cX6_answers 37 = .ok (.invokevirtual 84, 3) := by decide +kernel
theorem dX6_answers_40 : decode cX6_answers 40 = .ok (.istore_n 3, 1) := by decide +kernel
theorem dX6_answers_41 : decode cX6_answers 41 = .ok (.aload_n 0, 1) := by decide +kernel
theorem dX6_answers_42 : decode cX6_answers 42 = .ok (.getfield 7, 3) := by decide +kernel
theorem dX6_answers_45 : decode cX6_answers 45 = .ok (.aload_n 0, 1) := by decide +kernel
theorem dX6_answers_46 : decode cX6_answers 46 = .ok (.iload_n 3, 1) := by decide +kernel
theorem dX6_answers_47 : decode cX6_answers 47 = .ok (.invokevirtual 48, 3) := by decide +kernel
theorem dX6_answers_50 : decode cX6_answers 50 = .ok (.iconst 1, 1) := by decide +kernel
theorem dX6_answers_51 : decode cX6_answers 51 = .ok (.iadd, 1) := by decide +kernel
theorem dX6_answers_52 : decode cX6_answers 52 = .ok (.iaload, 1) := by decide +kernel
theorem dX6_answers_53 : decode cX6_answers 53 = .ok (.istore 4, 2) := by decide +kernel
theorem dX6_answers_55 : decode cX6_answers 55 = .ok (.aload_n 0, 1) := by decide +kernel
theorem dX6_answers_56 : decode cX6_answers 56 = .ok (.iload 4, 2) := by decide +kernel
theorem dX6_answers_58 : decode cX6_answers 58 = .ok (.iconst 2, 1) := by decide +kernel
theorem dX6_answers_59 : decode cX6_answers 59 = .ok (.iconst 1, 1) := by decide +kernel
theorem dX6_answers_60 : decode cX6_answers 60 = .ok (.invokevirtual 60, 3) := by decide +kernel
theorem dX6_answers_63 : decode cX6_answers 63 = .ok (.aload_n 0, 1) := by decide +kernel
theorem dX6_answers_64 : decode cX6_answers 64 = .ok (.getfield 7, 3) := by decide +kernel
theorem dX6_answers_67 : decode cX6_answers 67 = .ok (.sipush 138, 3) := by decide +kernel
theorem dX6_answers_70 : decode cX6_answers 70 = .ok (.bipush 6, 2) := by decide +kernel
theorem dX6_answers_72 : decode cX6_answers 72 = .ok (.iload 4, 2) := by decide +kernel
theorem dX6_answers_74 : decode cX6_answers 74 = .ok (.imul, 1) := by decide +kernel
theorem dX6_answers_75 : decode cX6_answers 75 = .ok (.iadd, 1) := by decide +kernel
theorem dX6_answers_76 : decode cX6_answers 76 = .ok (.aload_n 0, 1) := by decide +kernel
theorem dX6_answers_77 : decode cX6_answers 77 = .ok (.getfield 7, 3) := by decide +kernel
theorem dX6_answers_80 : decode cX6_answers 80 = .ok (.aload_n 0, 1) := by decide +kernel
theorem dX6_answers_81 : decode cX6_answers 81 = .ok (.iload_n 3, 1) := by decide +kernel
theorem dX6_answers_82 : decode cX6_answers 82 = .ok (.invokevirtual 48, 3) := by decide +kernel
theorem dX6_answers_85 : decode cX6_answers 85 = .ok (.iconst 3, 1) := by decide +kernel
theorem dX6_answers_86 : decode cX6_answers 86 = .ok (.iadd, 1) := by decide +kernel
theorem dX6_answers_87 : decode cX6_answers 87 = .ok (.iaload, 1) := by decide +kernel
theorem dX6_answers_88 : decode cX6_answers 88 = .ok (.iadd, 1) := by decide +kernel
theorem dX6_answers_89 : decode cX6_answers 89 = .ok (.iconst 1, 1) := by decide +kernel
theorem dX6_answers_90 : decode cX6_answers 90 = .ok (.isub, 1) := by decide +kernel
theorem dX6_answers_91 : decode cX6_answers 91 = .ok (.dup2, 1) := by decide +kernel
theorem dX6_answers_92 : decode cX6_answers 92 = .ok (.iaload, 1) := by decide +kernel
theorem dX6_answers_93 : decode cX6_answers 93 = .ok (.iconst 1, 1) := by decide +kernel
theorem dX6_answers_94 : decode cX6_answers 94 = .ok (.iadd, 1) := by decide +kernel
theorem dX6_answers_95 : decode cX6_answers 95 = .ok (.iastore, 1) := by decide +kernel
theorem dX6_answers_96 : decode cX6_answers 96 = .ok (.aload_n 0, 1) := by decide +kernel
theorem dX6_answers_97 : decode cX6_answers 97 = .ok (.dup, 1) := by decide +kernel
theorem dX6_answers_98 : decode cX6_answers 98 = .ok (.getfield 118, 3) := by decide +kernel
theorem dX6_answers_101 : decode cX6_answers 101 = .ok (.iconst 1, 1) := by decide +kernel
theorem dX6_answers_102 : decode cX6_answers 102 = .ok (.iadd, 1) := by decide +kernel
theorem dX6_answers_103 : decode cX6_answers 103 = .ok (.putfield 118, 3) := by decide +kernel
theorem dX6_answers_106 : decode cX6_answers 106 = .ok (.aload_n 0, 1) := by decide +kernel
theorem dX6_answers_107 : decode cX6_answers 107 = .ok (.iload_n 3, 1) := by decide +kernel
theorem dX6_answers_108 : decode cX6_answers 108 = .ok (.invokevirtual 70, 3) := by decide +kernel
theorem dX6_answers_111 : decode cX6_answers 111 = .ok (.return_, 1) := by decide +kernel
def bfX6_answers_111 (p1 : Int32) (S : MS) : Option (MS) :=
  some S
def bfX6_answers_26 (p1 : Int32) (x2 : Int32) (s1 : Int32) (s2 : Int32) (S : MS) : Option (MS) :=
  ob (fX6_leaves s1 s2 S) fun u12 => (if x2 = (-8 : Int32) then bfX6_answers_111 p1  u12 else ob (fX6_placeOf x2 u12) fun u13 => ob (fX6_row u13 u12) fun u14 => (if okI (u14 + (1 : Int32)) 5130 then nm ((u12.1 ((u14 + (1 : Int32))).toNatClampNeg)) fun v15 => ob (fX6_counts v15 (2 : Int32) (1 : Int32) u12) fun u16 => ob (fX6_row u13 u16) fun u17 => (if okI (u17 + (3 : Int32)) 5130 then (if okI ((((138 : Int32) + ((6 : Int32) * v15)) + (u16.1 ((u17 + (3 : Int32))).toNatClampNeg)) - (1 : Int32)) 5130 then (if okI ((((138 : Int32) + ((6 : Int32) * v15)) + (u16.1 ((u17 + (3 : Int32))).toNatClampNeg)) - (1 : Int32)) 5130 then nm (upd u16.1 (((((138 : Int32) + ((6 : Int32) * v15)) + (u16.1 ((u17 + (3 : Int32))).toNatClampNeg)) - (1 : Int32))).toNatClampNeg ((u16.1 (((((138 : Int32) + ((6 : Int32) * v15)) + (u16.1 ((u17 + (3 : Int32))).toNatClampNeg)) - (1 : Int32))).toNatClampNeg) + (1 : Int32)), u16.2) fun S18 => nm (S18.1, S18.2.1, upd S18.2.2 6 ((S18.2.2 6) + (1 : Int32))) fun S19 => ob (fX6_dies u13 S19) fun u20 => bfX6_answers_111 p1  u20 else none) else none) else none) else none))
def fX6_answers (p1 : Int32) (S : MS) : Option (MS) :=
  ob (fX6_slot p1 S) fun u21 => (if okI (u21 + (0 : Int32)) 5130 then nm ((S.1 ((u21 + (0 : Int32))).toNatClampNeg)) fun v22 => (if v22 = (-8 : Int32) then bfX6_answers_26 p1  v22 p1 ((0 : Int32)) S else bfX6_answers_26 p1  v22 p1 ((1 : Int32)) S) else none)
set_option maxHeartbeats 4000000 in
set_option maxRecDepth 100000 in
theorem kX6_answers (l : Launch) (D : va_G) (cI cS : ClassId) (aM : Nat → Nat) (p1 : Int32) (S : MS) {q : MS} (h : fX6_answers p1 S = some q) : Mc l D (tyL cI cS) false yX6_answers cX6_answers 5 none 3 [.ref (aM 0), .int p1] (wM cI aM S) none (wM cI aM q) := by
  refine Mc_of RX6 (by decide +kernel) rfl wc_X6_answers (Nat.le_of_ble_eq_true rfl) ?_
  intro p e s m args below meth c A Q ls C hA hz hP hD hS hl RET
  have RETh : ∀ {pc : Nat} {ls : Array Slot} {H : Heap} {locs : List Loc} {S1 : MS}, decode cX6_answers pc = .ok (.return_, 1) → some S1 = some q → va_P D vwCl (wM cI aM S1) H → va_D A (wM cI aM S1) → va_S A s.heap H locs → W p l e (rmL 3) s m args below meth c H locs 0 0 Q (F0 m pc ls []) := by
    intro pc ls H locs S1 hd h hP hD hS; cases h; exact RET (x_vret C hd) hP hD hS
  have B111 : ∀ (S : MS), bfX6_answers_111 p1 S = some q → ∀ (H : Heap) (locs : List Loc) (ls : Array Slot), va_P D vwCl (wM cI aM S) H → va_D A (wM cI aM S) → va_S A s.heap H locs → lv_has ls 5 [] → W p l e (rmL 3) s m args below meth c H locs 0 0 Q (F0 m 111 ls []) := by
    intro S h H locs ls hP hD hS hl
    exact RETh dX6_answers_111 h hP hD hS
  have B26 : ∀ (x2 : Int32) (s1 : Int32) (s2 : Int32) (S : MS), bfX6_answers_26 p1 x2 s1 s2 S = some q → ∀ (H : Heap) (locs : List Loc) (ls : Array Slot), va_P D vwCl (wM cI aM S) H → va_D A (wM cI aM S) → va_S A s.heap H locs → lv_has ls 5 [(0, .ref (aM 0)), (2, .int x2)] → W p l e (rmL 3) s m args below meth c H locs 0 0 Q (F0 m 26 ls [.int s2, .int s1, .ref (aM 0)]) := by
    intro x2 s1 s2 S h H locs ls hP hD hS hl
    obtain ⟨u12, hu12, h⟩ := ob_some h
    refine x_callV (As := [.int _, .int _]) (n := 2) C (kX6_leaves l D cI cS aM _ _ _ hu12) (fun hh => nomatch hh) wm_X6_80 wi_X6_leaves we_X6_leaves wz_X6 wc_X6_leaves (by decide +kernel) rfl hP hD hS hA 0 3 rfl rfl rfl hl.1 dX6_answers_26 rfl (Nat.le_of_ble_eq_true rfl) ⟨Nat.le_of_ble_eq_true rfl, Nat.le_of_ble_eq_true rfl⟩ ⟨Nat.zero_le _, Nat.zero_le _⟩ (fun H locs hP hD hS => ?_)
    refine x_iload_n C dX6_answers_29 rfl hl 1 rfl ?_
    refine x_bipush (v := (-8 : Int32)) C dX6_answers_30 (by decide) ?_
    refine x_icmp_eq (tgt := 111) C h dX6_answers_32 (by decide) (fun h => ?_) (fun h => ?_)
    · exact B111 _ h _ _ _ hP hD hS (lv_sub hl [] rfl)
    · refine x_aload_n C dX6_answers_35 rfl hl 0 rfl ?_
      refine x_iload_n C dX6_answers_36 rfl hl 1 rfl ?_
      obtain ⟨u13, hu13, h⟩ := ob_some h
      refine x_callV (As := [.int _]) (n := 1) C (kX6_placeOf l D cI cS aM _ _ hu13) (fun hh => nomatch hh) wm_X6_84 wi_X6_placeOf we_X6_placeOf wz_X6 wc_X6_placeOf (by decide +kernel) rfl hP hD hS hA 0 3 rfl rfl rfl hl.1 dX6_answers_37 rfl (Nat.le_of_ble_eq_true rfl) ⟨Nat.le_of_ble_eq_true rfl, Nat.le_of_ble_eq_true rfl⟩ ⟨Nat.zero_le _, Nat.zero_le _⟩ (fun H locs hP hD hS => ?_)
      refine x_istore_n (lv' := [(3, .int u13), (0, .ref (aM 0)), (2, .int x2)]) C dX6_answers_40 rfl hl (by decide) rfl (fun ls hl => ?_)
      refine x_aload_n C dX6_answers_41 rfl hl 1 rfl ?_
      refine x_get C inX6 hP 0 rfl rfl 0 (by decide) wf_X6_7 rfl dX6_answers_42 ?_
      refine x_aload_n C dX6_answers_45 rfl hl 1 rfl ?_
      refine x_iload_n C dX6_answers_46 rfl hl 0 rfl ?_
      obtain ⟨u14, hu14, h⟩ := ob_some h
      refine x_callV (As := [.int _]) (n := 1) C (kX6_row l D cI cS aM _ _ hu14) (fun hh => nomatch hh) wm_X6_48 wi_X6_row we_X6_row wz_X6 wc_X6_row (by decide +kernel) rfl hP hD hS hA 0 3 rfl rfl rfl hl.1 dX6_answers_47 rfl (Nat.le_of_ble_eq_true rfl) ⟨Nat.le_of_ble_eq_true rfl, Nat.le_of_ble_eq_true rfl⟩ ⟨Nat.zero_le _, Nat.zero_le _⟩ (fun H locs hP hD hS => ?_)
      refine x_iconst (v := (1 : Int32)) C dX6_answers_50 (by decide) ?_
      refine x_iadd C dX6_answers_51 ?_
      refine x_iald C h hP 1 rfl (t0 := 0) rfl dX6_answers_52 (fun h => ?_)
      refine x_nmi h (fun v15 h => ?_)
      refine x_istore (lv' := [(4, .int v15), (3, .int u13), (0, .ref (aM 0)), (2, .int x2)]) C dX6_answers_53 hl (by decide) rfl (fun ls hl => ?_)
      refine x_aload_n C dX6_answers_55 rfl hl 2 rfl ?_
      refine x_iload C dX6_answers_56 hl 0 rfl ?_
      refine x_iconst (v := (2 : Int32)) C dX6_answers_58 (by decide) ?_
      refine x_iconst (v := (1 : Int32)) C dX6_answers_59 (by decide) ?_
      obtain ⟨u16, hu16, h⟩ := ob_some h
      refine x_callV (As := [.int _, .int _, .int _]) (n := 3) C (kX6_counts l D cI cS aM _ _ _ _ hu16) (fun hh => nomatch hh) wm_X6_60 wi_X6_counts we_X6_counts wz_X6 wc_X6_counts (by decide +kernel) rfl hP hD hS hA 0 3 rfl rfl rfl hl.1 dX6_answers_60 rfl (Nat.le_of_ble_eq_true rfl) ⟨Nat.le_of_ble_eq_true rfl, Nat.le_of_ble_eq_true rfl⟩ ⟨Nat.zero_le _, Nat.zero_le _⟩ (fun H locs hP hD hS => ?_)
      refine x_aload_n C dX6_answers_63 rfl hl 2 rfl ?_
      refine x_get C inX6 hP 0 rfl rfl 0 (by decide) wf_X6_7 rfl dX6_answers_64 ?_
      refine x_sipush (v := (138 : Int32)) C dX6_answers_67 (by decide) ?_
      refine x_bipush (v := (6 : Int32)) C dX6_answers_70 (by decide) ?_
      refine x_iload C dX6_answers_72 hl 0 rfl ?_
      refine x_imul C dX6_answers_74 ?_
      refine x_iadd C dX6_answers_75 ?_
      refine x_aload_n C dX6_answers_76 rfl hl 2 rfl ?_
      refine x_get C inX6 hP 0 rfl rfl 0 (by decide) wf_X6_7 rfl dX6_answers_77 ?_
      refine x_aload_n C dX6_answers_80 rfl hl 2 rfl ?_
      refine x_iload_n C dX6_answers_81 rfl hl 1 rfl ?_
      obtain ⟨u17, hu17, h⟩ := ob_some h
      refine x_callV (As := [.int _]) (n := 1) C (kX6_row l D cI cS aM _ _ hu17) (fun hh => nomatch hh) wm_X6_48 wi_X6_row we_X6_row wz_X6 wc_X6_row (by decide +kernel) rfl hP hD hS hA 0 3 rfl rfl rfl hl.1 dX6_answers_82 rfl (Nat.le_of_ble_eq_true rfl) ⟨Nat.le_of_ble_eq_true rfl, Nat.le_of_ble_eq_true rfl⟩ ⟨Nat.zero_le _, Nat.zero_le _⟩ (fun H locs hP hD hS => ?_)
      refine x_iconst (v := (3 : Int32)) C dX6_answers_85 (by decide) ?_
      refine x_iadd C dX6_answers_86 ?_
      refine x_iald C h hP 1 rfl (t0 := 0) rfl dX6_answers_87 (fun h => ?_)
      refine x_iadd C dX6_answers_88 ?_
      refine x_iconst (v := (1 : Int32)) C dX6_answers_89 (by decide) ?_
      refine x_isub C dX6_answers_90 ?_
      refine x_dup2 C dX6_answers_91 rfl rfl ?_
      refine x_iald C h hP 1 rfl (t0 := 0) rfl dX6_answers_92 (fun h => ?_)
      refine x_iconst (v := (1 : Int32)) C dX6_answers_93 (by decide) ?_
      refine x_iadd C dX6_answers_94 ?_
      refine x_iastM (wM cI aM) C h hP hD hS 1 rfl (t0 := 0) rfl rfl dX6_answers_95 (fun S18 h H locs hP hD hS => ?_)
      refine x_aload_n C dX6_answers_96 rfl hl 2 rfl ?_
      refine x_dup C dX6_answers_97 rfl ?_
      refine x_get C inX6 hP 0 rfl rfl 6 (by decide) wf_X6_118 rfl dX6_answers_98 ?_
      refine x_iconst (v := (1 : Int32)) C dX6_answers_101 (by decide) ?_
      refine x_iadd C dX6_answers_102 ?_
      refine x_putM (wM cI aM) C h inX6 tyX6 tyX6_ok nmX6 hP hD hS 0 rfl rfl 6 (by decide) wf_X6_118 rfl (ft := .int) (by decide +kernel) rfl rfl (Nat.le_of_ble_eq_true rfl) rfl dX6_answers_103 (fun S19 h H locs hP hD hS => ?_)
      refine x_aload_n C dX6_answers_106 rfl hl 2 rfl ?_
      refine x_iload_n C dX6_answers_107 rfl hl 1 rfl ?_
      obtain ⟨u20, hu20, h⟩ := ob_some h
      refine x_callV (As := [.int _]) (n := 1) C (kX6_dies l D cI cS aM _ _ hu20) (fun hh => nomatch hh) wm_X6_70 wi_X6_dies we_X6_dies wz_X6 wc_X6_dies (by decide +kernel) rfl hP hD hS hA 0 3 rfl rfl rfl hl.1 dX6_answers_108 rfl (Nat.le_of_ble_eq_true rfl) ⟨Nat.le_of_ble_eq_true rfl, Nat.le_of_ble_eq_true rfl⟩ ⟨Nat.zero_le _, Nat.zero_le _⟩ (fun H locs hP hD hS => ?_)
      exact B111 _ h _ _ _ hP hD hS (lv_sub hl [] rfl)
  refine x_aload_n C dX6_answers_0 rfl hl 0 rfl ?_
  refine x_get C inX6 hP 0 rfl rfl 0 (by decide) wf_X6_7 rfl dX6_answers_1 ?_
  refine x_aload_n C dX6_answers_4 rfl hl 0 rfl ?_
  refine x_iload_n C dX6_answers_5 rfl hl 1 rfl ?_
  obtain ⟨u21, hu21, h⟩ := ob_some h
  refine x_callV (As := [.int _]) (n := 1) C (kX6_slot l D cI cS aM _ _ hu21) (fun hh => nomatch hh) wm_X6_74 wi_X6_slot we_X6_slot wz_X6 wc_X6_slot (by decide +kernel) rfl hP hD hS hA 0 3 rfl rfl rfl hl.1 dX6_answers_6 rfl (Nat.le_of_ble_eq_true rfl) ⟨Nat.le_of_ble_eq_true rfl, Nat.le_of_ble_eq_true rfl⟩ ⟨Nat.zero_le _, Nat.zero_le _⟩ (fun H locs hP hD hS => ?_)
  refine x_iconst (v := (0 : Int32)) C dX6_answers_9 (by decide) ?_
  refine x_iadd C dX6_answers_10 ?_
  refine x_iald C h hP 1 rfl (t0 := 0) rfl dX6_answers_11 (fun h => ?_)
  refine x_nmi h (fun v22 h => ?_)
  refine x_istore_n (lv' := [(2, .int v22), (0, .ref (aM 0)), (1, .int p1)]) C dX6_answers_12 rfl hl (by decide) rfl (fun ls hl => ?_)
  refine x_aload_n C dX6_answers_13 rfl hl 1 rfl ?_
  refine x_iload_n C dX6_answers_14 rfl hl 2 rfl ?_
  refine x_iload_n C dX6_answers_15 rfl hl 0 rfl ?_
  refine x_bipush (v := (-8 : Int32)) C dX6_answers_16 (by decide) ?_
  refine x_icmp_eq (tgt := 25) C h dX6_answers_18 (by decide) (fun h => ?_) (fun h => ?_)
  · refine x_iconst (v := (0 : Int32)) C dX6_answers_25 (by decide) ?_
    exact B26 _ _ _ _ h _ _ _ hP hD hS (lv_sub hl [1, 0] rfl)
  · refine x_iconst (v := (1 : Int32)) C dX6_answers_21 (by decide) ?_
    refine x_goto (tgt := 26) C dX6_answers_22 (by decide) ?_
    exact B26 _ _ _ _ h _ _ _ hP hD hS (lv_sub hl [1, 0] rfl)
theorem dX6_in_0 : decode cX6_in 0 = .ok (.iload_n 0, 1) := by decide +kernel
theorem dX6_in_1 : decode cX6_in 1 = .ok (.iload_n 1, 1) := by decide +kernel
theorem dX6_in_2 : decode cX6_in 2 = .ok (.if_icmp .lt 12, 3) := by decide +kernel
theorem dX6_in_5 : decode cX6_in 5 = .ok (.iload_n 0, 1) := by decide +kernel
theorem dX6_in_6 : decode cX6_in 6 = .ok (.iload_n 2, 1) := by decide +kernel
theorem dX6_in_7 : decode cX6_in 7 = .ok (.if_icmp .gt 7, 3) := by decide +kernel
theorem dX6_in_10 : decode cX6_in 10 = .ok (.iconst 1, 1) := by decide +kernel
theorem dX6_in_11 : decode cX6_in 11 = .ok (.goto 4, 3) := by decide +kernel
theorem dX6_in_14 : decode cX6_in 14 = .ok (.iconst 0, 1) := by decide +kernel
theorem dX6_in_15 : decode cX6_in 15 = .ok (.ireturn, 1) := by decide +kernel
def bfX6_in_15 (p1 : Int32) (p2 : Int32) (p3 : Int32) (s0 : Int32) : Option (Int32) :=
  (if s0 = 0 ∨ s0 = 1 then some s0 else none)
def bfX6_in_14 (p1 : Int32) (p2 : Int32) (p3 : Int32) : Option (Int32) :=
  bfX6_in_15 p1 p2 p3  ((0 : Int32))
def fX6_in (p1 : Int32) (p2 : Int32) (p3 : Int32) : Option (Int32) :=
  (if p1 < p2 then bfX6_in_14 p1 p2 p3 else (if p3 < p1 then bfX6_in_14 p1 p2 p3 else bfX6_in_15 p1 p2 p3  ((1 : Int32))))
set_option maxHeartbeats 4000000 in
set_option maxRecDepth 100000 in
theorem kX6_in (l : Launch) (D : va_G) (cI cS : ClassId) (ws : va_W) (p1 : Int32) (p2 : Int32) (p3 : Int32) {q : Int32} (h : fX6_in p1 p2 p3 = some q) : Mc l D (tyL cI cS) false yX6_in cX6_in 3 (some .boolean) 1 [.int p1, .int p2, .int p3] (ws) (some (.int q)) (ws) := by
  refine Mc_of RX6 (by decide +kernel) rfl wc_X6_in (Nat.le_of_ble_eq_true rfl) ?_
  intro p e s m args below meth c A Q ls C hA hz hP hD hS hl RET
  have RETh : ∀ {pc : Nat} {ls : Array Slot} {H : Heap} {locs : List Loc} {x : Int32} , (x = 0 ∨ x = 1) → decode cX6_in pc = .ok (.ireturn, 1) → some x = some q → va_P D vwCl (ws) H → va_D A (ws) → va_S A s.heap H locs → W p l e (rmL 1) s m args below meth c H locs 0 0 Q (F0 m pc ls [.int x]) := by
    intro pc ls H locs x hx hd h hP hD hS; cases h; exact RET (x_zret C hx hd) hP hD hS
  have B15 : ∀ (s0 : Int32), bfX6_in_15 p1 p2 p3 s0 = some q → ∀ (H : Heap) (locs : List Loc) (ls : Array Slot), va_P D vwCl (ws) H → va_D A (ws) → va_S A s.heap H locs → lv_has ls 3 [] → W p l e (rmL 1) s m args below meth c H locs 0 0 Q (F0 m 15 ls [.int s0]) := by
    intro s0 h H locs ls hP hD hS hl
    rcases x_ifn h with ⟨hc, h⟩
    exact RETh hc dX6_in_15 h hP hD hS
  have B14 : bfX6_in_14 p1 p2 p3 = some q → ∀ (H : Heap) (locs : List Loc) (ls : Array Slot), va_P D vwCl (ws) H → va_D A (ws) → va_S A s.heap H locs → lv_has ls 3 [] → W p l e (rmL 1) s m args below meth c H locs 0 0 Q (F0 m 14 ls []) := by
    intro  h H locs ls hP hD hS hl
    refine x_iconst (v := (0 : Int32)) C dX6_in_14 (by decide) ?_
    exact B15 _ h _ _ _ hP hD hS hl
  refine x_iload_n C dX6_in_0 rfl hl 0 rfl ?_
  refine x_iload_n C dX6_in_1 rfl hl 1 rfl ?_
  refine x_icmp_lt (tgt := 14) C h dX6_in_2 (by decide) (fun h => ?_) (fun h => ?_)
  · exact B14  h _ _ _ hP hD hS (lv_sub hl [] rfl)
  · refine x_iload_n C dX6_in_5 rfl hl 0 rfl ?_
    refine x_iload_n C dX6_in_6 rfl hl 2 rfl ?_
    refine x_icmp_gt (tgt := 14) C h dX6_in_7 (by decide) (fun h => ?_) (fun h => ?_)
    · exact B14  h _ _ _ hP hD hS (lv_sub hl [] rfl)
    · refine x_iconst (v := (1 : Int32)) C dX6_in_10 (by decide) ?_
      refine x_goto (tgt := 15) C dX6_in_11 (by decide) ?_
      exact B15 _ h _ _ _ hP hD hS (lv_sub hl [] rfl)
theorem dX6_ownerOf_0 : decode cX6_ownerOf 0 = .ok (.iload_n 1, 1) := by decide +kernel
theorem dX6_ownerOf_1 : decode cX6_ownerOf 1 = .ok (.bipush (-9), 2) := by decide +kernel
theorem dX6_ownerOf_3 : decode cX6_ownerOf 3 = .ok (.if_icmp .ne 8, 3) := by decide +kernel
theorem dX6_ownerOf_6 : decode cX6_ownerOf 6 = .ok (.bipush (-9), 2) := by decide +kernel
theorem dX6_ownerOf_8 : decode cX6_ownerOf 8 = .ok (.goto 15, 3) := by decide +kernel
theorem dX6_ownerOf_11 : decode cX6_ownerOf 11 = .ok (.aload_n 0, 1) := by decide +kernel
theorem dX6_ownerOf_12 : decode cX6_ownerOf 12 = .ok (.getfield 7, 3) := by decide +kernel
theorem dX6_ownerOf_15 : decode cX6_ownerOf 15 = .ok (.aload_n 0, 1) := by decide +kernel
theorem dX6_ownerOf_16 : decode cX6_ownerOf 16 = .ok (.iload_n 1, 1) := by decide +kernel
theorem dX6_ownerOf_17 : decode cX6_ownerOf 17 = .ok (.invokevirtual 74, 3) := by decide +kernel
theorem dX6_ownerOf_20 : decode cX6_ownerOf 20 = .ok (.iconst 0, 1) := by decide +kernel
theorem dX6_ownerOf_21 : decode cX6_ownerOf 21 = .ok (.iadd, 1) := by decide +kernel
theorem dX6_ownerOf_22 : decode cX6_ownerOf 22 = .ok (.iaload, 1) := by decide +kernel
theorem dX6_ownerOf_23 : decode cX6_ownerOf 23 = .ok (.ireturn, 1) := by decide +kernel
def bfX6_ownerOf_23 (p1 : Int32) (S : MS) (s0 : Int32) : Option (Int32) :=
  some s0
def fX6_ownerOf (p1 : Int32) (S : MS) : Option (Int32) :=
  (if p1 = (-9 : Int32) then bfX6_ownerOf_23 p1 S  ((-9 : Int32)) else ob (fX6_slot p1 S) fun u2 => (if okI (u2 + (0 : Int32)) 5130 then bfX6_ownerOf_23 p1 S  ((S.1 ((u2 + (0 : Int32))).toNatClampNeg)) else none))
set_option maxHeartbeats 4000000 in
set_option maxRecDepth 100000 in
theorem kX6_ownerOf (l : Launch) (D : va_G) (cI cS : ClassId) (aM : Nat → Nat) (p1 : Int32) (S : MS) {q : Int32} (h : fX6_ownerOf p1 S = some q) : Mc l D (tyL cI cS) false yX6_ownerOf cX6_ownerOf 2 (some .int) 2 [.ref (aM 0), .int p1] (wM cI aM S) (some (.int q)) (wM cI aM S) := by
  refine Mc_of RX6 (by decide +kernel) rfl wc_X6_ownerOf (Nat.le_of_ble_eq_true rfl) ?_
  intro p e s m args below meth c A Q ls C hA hz hP hD hS hl RET
  have RETh : ∀ {pc : Nat} {ls : Array Slot} {H : Heap} {locs : List Loc} {x : Int32} , decode cX6_ownerOf pc = .ok (.ireturn, 1) → some x = some q → va_P D vwCl (wM cI aM S) H → va_D A (wM cI aM S) → va_S A s.heap H locs → W p l e (rmL 2) s m args below meth c H locs 0 0 Q (F0 m pc ls [.int x]) := by
    intro pc ls H locs x hd h hP hD hS; cases h; exact RET (x_iret C hd) hP hD hS
  have B23 : ∀ (s0 : Int32), bfX6_ownerOf_23 p1 S s0 = some q → ∀ (H : Heap) (locs : List Loc) (ls : Array Slot), va_P D vwCl (wM cI aM S) H → va_D A (wM cI aM S) → va_S A s.heap H locs → lv_has ls 2 [] → W p l e (rmL 2) s m args below meth c H locs 0 0 Q (F0 m 23 ls [.int s0]) := by
    intro s0 h H locs ls hP hD hS hl
    exact RETh dX6_ownerOf_23 h hP hD hS
  refine x_iload_n C dX6_ownerOf_0 rfl hl 1 rfl ?_
  refine x_bipush (v := (-9 : Int32)) C dX6_ownerOf_1 (by decide) ?_
  refine x_icmp_ne (tgt := 11) C h dX6_ownerOf_3 (by decide) (fun h => ?_) (fun h => ?_)
  · refine x_aload_n C dX6_ownerOf_11 rfl hl 0 rfl ?_
    refine x_get C inX6 hP 0 rfl rfl 0 (by decide) wf_X6_7 rfl dX6_ownerOf_12 ?_
    refine x_aload_n C dX6_ownerOf_15 rfl hl 0 rfl ?_
    refine x_iload_n C dX6_ownerOf_16 rfl hl 1 rfl ?_
    obtain ⟨u2, hu2, h⟩ := ob_some h
    refine x_callV (As := [.int _]) (n := 1) C (kX6_slot l D cI cS aM _ _ hu2) (fun hh => nomatch hh) wm_X6_74 wi_X6_slot we_X6_slot wz_X6 wc_X6_slot (by decide +kernel) rfl hP hD hS hA 0 3 rfl rfl rfl hl.1 dX6_ownerOf_17 rfl (Nat.le_of_ble_eq_true rfl) ⟨Nat.le_of_ble_eq_true rfl, Nat.le_of_ble_eq_true rfl⟩ ⟨Nat.zero_le _, Nat.zero_le _⟩ (fun H locs hP hD hS => ?_)
    refine x_iconst (v := (0 : Int32)) C dX6_ownerOf_20 (by decide) ?_
    refine x_iadd C dX6_ownerOf_21 ?_
    refine x_iald C h hP 1 rfl (t0 := 0) rfl dX6_ownerOf_22 (fun h => ?_)
    exact B23 _ h _ _ _ hP hD hS (lv_sub hl [] rfl)
  · refine x_bipush (v := (-9 : Int32)) C dX6_ownerOf_6 (by decide) ?_
    refine x_goto (tgt := 23) C dX6_ownerOf_8 (by decide) ?_
    exact B23 _ h _ _ _ hP hD hS (lv_sub hl [] rfl)
theorem dX6_atWorker_0 : decode cX6_atWorker 0 = .ok (.iload_n 2, 1) := by decide +kernel
theorem dX6_atWorker_1 : decode cX6_atWorker 1 = .ok (.iconst 0, 1) := by decide +kernel
theorem dX6_atWorker_2 : decode cX6_atWorker 2 = .ok (.iconst 3, 1) := by decide +kernel
theorem dX6_atWorker_3 : decode cX6_atWorker 3 = .ok (.invokestatic 33, 3) := by decide +kernel
theorem dX6_atWorker_6 : decode cX6_atWorker 6 = .ok (.ifCond .eq 30, 3) := by decide +kernel
theorem dX6_atWorker_9 : decode cX6_atWorker 9 = .ok (.aload_n 0, 1) := by decide +kernel
theorem dX6_atWorker_10 : decode cX6_atWorker 10 = .ok (.aload_n 0, 1) := by decide +kernel
theorem dX6_atWorker_11 : decode cX6_atWorker 11 = .ok (.getfield 7, 3) := by decide +kernel
theorem dX6_atWorker_14 : decode cX6_atWorker 14 = .ok (.iload_n 1, 1) := by decide +kernel
theorem dX6_atWorker_15 : decode cX6_atWorker 15 = .ok (.ifCond .eq 9, 3) := by decide +kernel
theorem dX6_atWorker_18 : decode cX6_atWorker 18 = .ok (.sipush 595, 3) := by decide +kernel
theorem dX6_atWorker_21 : decode cX6_atWorker 21 = .ok (.goto 6, 3) := by decide +kernel
theorem dX6_atWorker_24 : decode cX6_atWorker 24 = .ok (.sipush 591, 3) := by decide +kernel
theorem dX6_atWorker_27 : decode cX6_atWorker 27 = .ok (.iload_n 2, 1) := by decide +kernel
theorem dX6_atWorker_28 : decode cX6_atWorker 28 = .ok (.iadd, 1) := by decide +kernel
theorem dX6_atWorker_29 : decode cX6_atWorker 29 = .ok (.iaload, 1) := by decide +kernel
theorem dX6_atWorker_30 : decode cX6_atWorker 30 = .ok (.invokevirtual 178, 3) := by decide +kernel
theorem dX6_atWorker_33 : decode cX6_atWorker 33 = .ok (.goto 4, 3) := by decide +kernel
theorem dX6_atWorker_36 : decode cX6_atWorker 36 = .ok (.iconst (-1), 1) := by decide +kernel
theorem dX6_atWorker_37 : decode cX6_atWorker 37 = .ok (.ireturn, 1) := by decide +kernel
def bfX6_atWorker_37 (p1 : Int32) (p2 : Int32) (S : MS) (s0 : Int32) : Option (Int32) :=
  some s0
def bfX6_atWorker_27 (p1 : Int32) (p2 : Int32) (S : MS) (s2 : Int32) : Option (Int32) :=
  (if okI (s2 + p2) 5130 then ob (fX6_ownerOf ((S.1 ((s2 + p2)).toNatClampNeg)) S) fun u3 => bfX6_atWorker_37 p1 p2 S  u3 else none)
def fX6_atWorker (p1 : Int32) (p2 : Int32) (S : MS) : Option (Int32) :=
  ob (fX6_in p2 (0 : Int32) (3 : Int32)) fun u4 => (if u4 = 0 then bfX6_atWorker_37 p1 p2 S  ((-1 : Int32)) else (if p1 = 0 then bfX6_atWorker_27 p1 p2 S  ((591 : Int32)) else bfX6_atWorker_27 p1 p2 S  ((595 : Int32))))
set_option maxHeartbeats 4000000 in
set_option maxRecDepth 100000 in
theorem kX6_atWorker (l : Launch) (D : va_G) (cI cS : ClassId) (aM : Nat → Nat) (p1 : Int32) (p2 : Int32) (S : MS) {q : Int32} (h : fX6_atWorker p1 p2 S = some q) : Mc l D (tyL cI cS) false yX6_atWorker cX6_atWorker 3 (some .int) 3 [.ref (aM 0), .int p1, .int p2] (wM cI aM S) (some (.int q)) (wM cI aM S) := by
  refine Mc_of RX6 (by decide +kernel) rfl wc_X6_atWorker (Nat.le_of_ble_eq_true rfl) ?_
  intro p e s m args below meth c A Q ls C hA hz hP hD hS hl RET
  have RETh : ∀ {pc : Nat} {ls : Array Slot} {H : Heap} {locs : List Loc} {x : Int32} , decode cX6_atWorker pc = .ok (.ireturn, 1) → some x = some q → va_P D vwCl (wM cI aM S) H → va_D A (wM cI aM S) → va_S A s.heap H locs → W p l e (rmL 3) s m args below meth c H locs 0 0 Q (F0 m pc ls [.int x]) := by
    intro pc ls H locs x hd h hP hD hS; cases h; exact RET (x_iret C hd) hP hD hS
  have B37 : ∀ (s0 : Int32), bfX6_atWorker_37 p1 p2 S s0 = some q → ∀ (H : Heap) (locs : List Loc) (ls : Array Slot), va_P D vwCl (wM cI aM S) H → va_D A (wM cI aM S) → va_S A s.heap H locs → lv_has ls 3 [] → W p l e (rmL 3) s m args below meth c H locs 0 0 Q (F0 m 37 ls [.int s0]) := by
    intro s0 h H locs ls hP hD hS hl
    exact RETh dX6_atWorker_37 h hP hD hS
  have B27 : ∀ (s2 : Int32), bfX6_atWorker_27 p1 p2 S s2 = some q → ∀ (H : Heap) (locs : List Loc) (ls : Array Slot), va_P D vwCl (wM cI aM S) H → va_D A (wM cI aM S) → va_S A s.heap H locs → lv_has ls 3 [(2, .int p2)] → W p l e (rmL 3) s m args below meth c H locs 0 0 Q (F0 m 27 ls [.int s2, .ref (aM 1), .ref (aM 0)]) := by
    intro s2 h H locs ls hP hD hS hl
    refine x_iload_n C dX6_atWorker_27 rfl hl 0 rfl ?_
    refine x_iadd C dX6_atWorker_28 ?_
    refine x_iald C h hP 1 rfl (t0 := 0) rfl dX6_atWorker_29 (fun h => ?_)
    obtain ⟨u3, hu3, h⟩ := ob_some h
    refine x_callV (As := [.int _]) (n := 1) C (kX6_ownerOf l D cI cS aM _ _ hu3) (fun hh => nomatch hh) wm_X6_178 wi_X6_ownerOf we_X6_ownerOf wz_X6 wc_X6_ownerOf (by decide +kernel) rfl hP hD hS hA 0 3 rfl rfl rfl hl.1 dX6_atWorker_30 rfl (Nat.le_of_ble_eq_true rfl) ⟨Nat.le_of_ble_eq_true rfl, Nat.le_of_ble_eq_true rfl⟩ ⟨Nat.zero_le _, Nat.zero_le _⟩ (fun H locs hP hD hS => ?_)
    refine x_goto (tgt := 37) C dX6_atWorker_33 (by decide) ?_
    exact B37 _ h _ _ _ hP hD hS (lv_sub hl [] rfl)
  refine x_iload_n C dX6_atWorker_0 rfl hl 2 rfl ?_
  refine x_iconst (v := (0 : Int32)) C dX6_atWorker_1 (by decide) ?_
  refine x_iconst (v := (3 : Int32)) C dX6_atWorker_2 (by decide) ?_
  obtain ⟨u4, hu4, h⟩ := ob_some h
  refine x_callS (As := [.int _, .int _, .int _]) (n := 3) C (kX6_in l D cI cS _ _ _ _ hu4) (fun hh => nomatch hh) wm_X6_33 wt_X6_in wz_X6 wc_X6_in (by decide +kernel) rfl hP hD hS hA hl.1 dX6_atWorker_3 rfl (Nat.le_of_ble_eq_true rfl) ⟨Nat.le_of_ble_eq_true rfl, Nat.le_of_ble_eq_true rfl⟩ ⟨Nat.zero_le _, Nat.zero_le _⟩ (fun H locs hP hD hS => ?_)
  refine x_if_eq (tgt := 36) C h dX6_atWorker_6 (by decide) (fun h => ?_) (fun h => ?_)
  · refine x_iconst (v := (-1 : Int32)) C dX6_atWorker_36 (by decide) ?_
    exact B37 _ h _ _ _ hP hD hS (lv_sub hl [] rfl)
  · refine x_aload_n C dX6_atWorker_9 rfl hl 0 rfl ?_
    refine x_aload_n C dX6_atWorker_10 rfl hl 0 rfl ?_
    refine x_get C inX6 hP 0 rfl rfl 0 (by decide) wf_X6_7 rfl dX6_atWorker_11 ?_
    refine x_iload_n C dX6_atWorker_14 rfl hl 1 rfl ?_
    refine x_if_eq (tgt := 24) C h dX6_atWorker_15 (by decide) (fun h => ?_) (fun h => ?_)
    · refine x_sipush (v := (591 : Int32)) C dX6_atWorker_24 (by decide) ?_
      exact B27 _ h _ _ _ hP hD hS (lv_sub hl [2] rfl)
    · refine x_sipush (v := (595 : Int32)) C dX6_atWorker_18 (by decide) ?_
      refine x_goto (tgt := 27) C dX6_atWorker_21 (by decide) ?_
      exact B27 _ h _ _ _ hP hD hS (lv_sub hl [2] rfl)
theorem dX6_copies_0 : decode cX6_copies 0 = .ok (.iconst 0, 1) := by decide +kernel
theorem dX6_copies_1 : decode cX6_copies 1 = .ok (.istore_n 3, 1) := by decide +kernel
theorem dX6_copies_2 : decode cX6_copies 2 = .ok (.iload_n 3, 1) := by decide +kernel
theorem dX6_copies_3 : decode cX6_copies 3 = .ok (.sipush 855, 3) := by decide +kernel
theorem dX6_copies_6 : decode cX6_copies 6 = .ok (.if_icmp .ge 33, 3) := by decide +kernel
theorem dX6_copies_9 : decode cX6_copies 9 = .ok (.aload_n 0, 1) := by decide +kernel
theorem dX6_copies_10 : decode cX6_copies 10 = .ok (.getfield 7, 3) := by decide +kernel
theorem dX6_copies_13 : decode cX6_copies 13 = .ok (.sipush 855, 3) := by decide +kernel
theorem dX6_copies_16 : decode cX6_copies 16 = .ok (.iload_n 2, 1) := by decide +kernel
theorem dX6_copies_17 : decode cX6_copies 17 = .ok (.imul, 1) := by decide +kernel
theorem dX6_copies_18 : decode cX6_copies 18 = .ok (.iload_n 3, 1) := by decide +kernel
theorem dX6_copies_19 : decode cX6_copies 19 = .ok (.iadd, 1) := by decide +kernel
theorem dX6_copies_20 : decode cX6_copies 20 = .ok (.aload_n 0, 1) := by decide +kernel
theorem dX6_copies_21 : decode cX6_copies 21 = .ok (.getfield 7, 3) := by decide +kernel
theorem dX6_copies_24 : decode cX6_copies 24 = .ok (.sipush 855, 3) := by decide +kernel
theorem dX6_copies_27 : decode cX6_copies 27 = .ok (.iload_n 1, 1) := by decide +kernel
theorem dX6_copies_28 : decode cX6_copies 28 = .ok (.imul, 1) := by decide +kernel
theorem dX6_copies_29 : decode cX6_copies 29 = .ok (.iload_n 3, 1) := by decide +kernel
theorem dX6_copies_30 : decode cX6_copies 30 = .ok (.iadd, 1) := by decide +kernel
theorem dX6_copies_31 : decode cX6_copies 31 = .ok (.iaload, 1) := by decide +kernel
theorem dX6_copies_32 : decode cX6_copies 32 = .ok (.iastore, 1) := by decide +kernel
theorem dX6_copies_33 : decode cX6_copies 33 = .ok (.iinc 3 1, 3) := by decide +kernel
theorem dX6_copies_36 : decode cX6_copies 36 = .ok (.goto (-34), 3) := by decide +kernel
theorem dX6_copies_39 : decode cX6_copies 39 = .ok (.return_, 1) := by decide +kernel
def bfX6_copies_2 (p1 : Int32) (p2 : Int32) (K2 : Int32 × (MS) → Option (MS)) (x : Int32 × (MS)) : Option (MS) :=
  match x with
  | (x3, S) => (if (855 : Int32) ≤ x3 then some S else (if okI (((855 : Int32) * p1) + x3) 5130 then (if okI (((855 : Int32) * p2) + x3) 5130 then nm (upd S.1 ((((855 : Int32) * p2) + x3)).toNatClampNeg (S.1 ((((855 : Int32) * p1) + x3)).toNatClampNeg), S.2) fun S2 => K2 ((x3 + (1 : Int32)), S2) else none) else none))
def fX6_copies (p1 : Int32) (p2 : Int32) (S : MS) : Option (MS) :=
  iter (bfX6_copies_2 p1 p2) FU ((0 : Int32), S)
set_option maxHeartbeats 4000000 in
set_option maxRecDepth 100000 in
theorem kX6_copies (l : Launch) (D : va_G) (cI cS : ClassId) (aM : Nat → Nat) (p1 : Int32) (p2 : Int32) (S : MS) {q : MS} (h : fX6_copies p1 p2 S = some q) : Mc l D (tyL cI cS) false yX6_copies cX6_copies 4 none 1 [.ref (aM 0), .int p1, .int p2] (wM cI aM S) none (wM cI aM q) := by
  refine Mc_of RX6 (by decide +kernel) rfl wc_X6_copies (Nat.le_of_ble_eq_true rfl) ?_
  intro p e s m args below meth c A Q ls C hA hz hP hD hS hl RET
  have RETh : ∀ {pc : Nat} {ls : Array Slot} {H : Heap} {locs : List Loc} {S1 : MS}, decode cX6_copies pc = .ok (.return_, 1) → some S1 = some q → va_P D vwCl (wM cI aM S1) H → va_D A (wM cI aM S1) → va_S A s.heap H locs → W p l e (rmL 1) s m args below meth c H locs 0 0 Q (F0 m pc ls []) := by
    intro pc ls H locs S1 hd h hP hD hS; cases h; exact RET (x_vret C hd) hP hD hS
  have B2 : ∀ (n : Nat) (x : Int32 × (MS)), iter (bfX6_copies_2 p1 p2) n x = some q → (match x with | (x3, S) => ∀ (H : Heap) (locs : List Loc) (ls : Array Slot), va_P D vwCl (wM cI aM S) H → va_D A (wM cI aM S) → va_S A s.heap H locs → lv_has ls 4 [(0, .ref (aM 0)), (1, .int p1), (2, .int p2), (3, .int x3)] → W p l e (rmL 1) s m args below meth c H locs 0 0 Q (F0 m 2 ls [])) := by
    refine iter_ind (fun x : Int32 × (MS) => (match x with | (x3, S) => ∀ (H : Heap) (locs : List Loc) (ls : Array Slot), va_P D vwCl (wM cI aM S) H → va_D A (wM cI aM S) → va_S A s.heap H locs → lv_has ls 4 [(0, .ref (aM 0)), (1, .int p1), (2, .int p2), (3, .int x3)] → W p l e (rmL 1) s m args below meth c H locs 0 0 Q (F0 m 2 ls []))) ?_
    intro K2 ih2 x h
    obtain ⟨x3, S⟩ := x
    intro H locs ls hP hD hS hl
    refine x_iload_n C dX6_copies_2 rfl hl 3 rfl ?_
    refine x_sipush (v := (855 : Int32)) C dX6_copies_3 (by decide) ?_
    refine x_icmp_ge (tgt := 39) C h dX6_copies_6 (by decide) (fun h => ?_) (fun h => ?_)
    · exact RETh dX6_copies_39 h hP hD hS
    · refine x_aload_n C dX6_copies_9 rfl hl 0 rfl ?_
      refine x_get C inX6 hP 0 rfl rfl 0 (by decide) wf_X6_7 rfl dX6_copies_10 ?_
      refine x_sipush (v := (855 : Int32)) C dX6_copies_13 (by decide) ?_
      refine x_iload_n C dX6_copies_16 rfl hl 2 rfl ?_
      refine x_imul C dX6_copies_17 ?_
      refine x_iload_n C dX6_copies_18 rfl hl 3 rfl ?_
      refine x_iadd C dX6_copies_19 ?_
      refine x_aload_n C dX6_copies_20 rfl hl 0 rfl ?_
      refine x_get C inX6 hP 0 rfl rfl 0 (by decide) wf_X6_7 rfl dX6_copies_21 ?_
      refine x_sipush (v := (855 : Int32)) C dX6_copies_24 (by decide) ?_
      refine x_iload_n C dX6_copies_27 rfl hl 1 rfl ?_
      refine x_imul C dX6_copies_28 ?_
      refine x_iload_n C dX6_copies_29 rfl hl 3 rfl ?_
      refine x_iadd C dX6_copies_30 ?_
      refine x_iald C h hP 1 rfl (t0 := 0) rfl dX6_copies_31 (fun h => ?_)
      refine x_iastM (wM cI aM) C h hP hD hS 1 rfl (t0 := 0) rfl rfl dX6_copies_32 (fun S2 h H locs hP hD hS => ?_)
      refine x_iinc (v := (x3 + (1 : Int32))) (lv' := [(3, .int (x3 + (1 : Int32))), (0, .ref (aM 0)), (1, .int p1), (2, .int p2)]) C dX6_copies_33 hl (k := 3) rfl rfl (by decide) rfl (fun ls hl => ?_)
      refine x_goto (tgt := 2) C dX6_copies_36 (by decide) ?_
      exact ih2 _ h _ _ _ hP hD hS (lv_sub hl [1, 2, 3, 0] rfl)
  refine x_iconst (v := (0 : Int32)) C dX6_copies_0 (by decide) ?_
  refine x_istore_n (lv' := [(3, .int (0 : Int32)), (0, .ref (aM 0)), (1, .int p1), (2, .int p2)]) C dX6_copies_1 rfl hl (by decide) rfl (fun ls hl => ?_)
  exact B2 FU _ h _ _ _ hP hD hS (lv_sub hl [1, 2, 3, 0] rfl)
theorem dX6_begins_0 : decode cX6_begins 0 = .ok (.aload_n 0, 1) := by decide +kernel
theorem dX6_begins_1 : decode cX6_begins 1 = .ok (.getfield 25, 3) := by decide +kernel
theorem dX6_begins_4 : decode cX6_begins 4 = .ok (.iconst 4, 1) := by decide +kernel
theorem dX6_begins_5 : decode cX6_begins 5 = .ok (.if_icmp .ne 34, 3) := by decide +kernel
theorem dX6_begins_8 : decode cX6_begins 8 = .ok (.iconst 1, 1) := by decide +kernel
theorem dX6_begins_9 : decode cX6_begins 9 = .ok (.istore_n 1, 1) := by decide +kernel
theorem dX6_begins_10 : decode cX6_begins 10 = .ok (.iload_n 1, 1) := by decide +kernel
theorem dX6_begins_11 : decode cX6_begins 11 = .ok (.iconst 4, 1) := by decide +kernel
theorem dX6_begins_12 : decode cX6_begins 12 = .ok (.if_icmp .ge 17, 3) := by decide +kernel
theorem dX6_begins_15 : decode cX6_begins 15 = .ok (.aload_n 0, 1) := by decide +kernel
theorem dX6_begins_16 : decode cX6_begins 16 = .ok (.iload_n 1, 1) := by decide +kernel
theorem dX6_begins_17 : decode cX6_begins 17 = .ok (.iconst 1, 1) := by decide +kernel
theorem dX6_begins_18 : decode cX6_begins 18 = .ok (.iadd, 1) := by decide +kernel
theorem dX6_begins_19 : decode cX6_begins 19 = .ok (.iload_n 1, 1) := by decide +kernel
theorem dX6_begins_20 : decode cX6_begins 20 = .ok (.invokevirtual 29, 3) := by decide +kernel
theorem dX6_begins_23 : decode cX6_begins 23 = .ok (.iinc 1 1, 3) := by decide +kernel
theorem dX6_begins_26 : decode cX6_begins 26 = .ok (.goto (-16), 3) := by decide +kernel
theorem dX6_begins_29 : decode cX6_begins 29 = .ok (.aload_n 0, 1) := by decide +kernel
theorem dX6_begins_30 : decode cX6_begins 30 = .ok (.dup, 1) := by decide +kernel
theorem dX6_begins_31 : decode cX6_begins 31 = .ok (.getfield 25, 3) := by decide +kernel
theorem dX6_begins_34 : decode cX6_begins 34 = .ok (.iconst 1, 1) := by decide +kernel
theorem dX6_begins_35 : decode cX6_begins 35 = .ok (.isub, 1) := by decide +kernel
theorem dX6_begins_36 : decode cX6_begins 36 = .ok (.putfield 25, 3) := by decide +kernel
theorem dX6_begins_39 : decode cX6_begins 39 = .ok (.aload_n 0, 1) := by decide +kernel
theorem dX6_begins_40 : decode cX6_begins 40 = .ok (.dup, 1) := by decide +kernel
theorem dX6_begins_41 : decode cX6_begins 41 = .ok (.getfield 25, 3) := by decide +kernel
theorem dX6_begins_44 : decode cX6_begins 44 = .ok (.iconst 1, 1) := by decide +kernel
theorem dX6_begins_45 : decode cX6_begins 45 = .ok (.iadd, 1) := by decide +kernel
theorem dX6_begins_46 : decode cX6_begins 46 = .ok (.putfield 25, 3) := by decide +kernel
theorem dX6_begins_49 : decode cX6_begins 49 = .ok (.aload_n 0, 1) := by decide +kernel
theorem dX6_begins_50 : decode cX6_begins 50 = .ok (.iconst 0, 1) := by decide +kernel
theorem dX6_begins_51 : decode cX6_begins 51 = .ok (.aload_n 0, 1) := by decide +kernel
theorem dX6_begins_52 : decode cX6_begins 52 = .ok (.getfield 25, 3) := by decide +kernel
theorem dX6_begins_55 : decode cX6_begins 55 = .ok (.invokevirtual 29, 3) := by decide +kernel
theorem dX6_begins_58 : decode cX6_begins 58 = .ok (.return_, 1) := by decide +kernel
def bfX6_begins_39  (S : MS) : Option (MS) :=
  nm (S.1, S.2.1, upd S.2.2 1 ((S.2.2 1) + (1 : Int32))) fun S5 => ob (fX6_copies (0 : Int32) (S5.2.2 1) S5) fun u6 => some u6
def bfX6_begins_10  (K10 : Int32 × (MS) → Option (MS)) (x : Int32 × (MS)) : Option (MS) :=
  match x with
  | (x1, S) => (if (4 : Int32) ≤ x1 then nm (S.1, S.2.1, upd S.2.2 1 ((S.2.2 1) - (1 : Int32))) fun S7 => bfX6_begins_39   S7 else ob (fX6_copies ((x1 + (1 : Int32))) x1 S) fun u8 => K10 ((x1 + (1 : Int32)), u8))
def fX6_begins  (S : MS) : Option (MS) :=
  (if (S.2.2 1) = (4 : Int32) then iter (bfX6_begins_10) FU ((1 : Int32), S) else bfX6_begins_39   S)
set_option maxHeartbeats 4000000 in
set_option maxRecDepth 100000 in
theorem kX6_begins (l : Launch) (D : va_G) (cI cS : ClassId) (aM : Nat → Nat)  (S : MS) {q : MS} (h : fX6_begins  S = some q) : Mc l D (tyL cI cS) false yX6_begins cX6_begins 2 none 2 [.ref (aM 0)] (wM cI aM S) none (wM cI aM q) := by
  refine Mc_of RX6 (by decide +kernel) rfl wc_X6_begins (Nat.le_of_ble_eq_true rfl) ?_
  intro p e s m args below meth c A Q ls C hA hz hP hD hS hl RET
  have RETh : ∀ {pc : Nat} {ls : Array Slot} {H : Heap} {locs : List Loc} {S1 : MS}, decode cX6_begins pc = .ok (.return_, 1) → some S1 = some q → va_P D vwCl (wM cI aM S1) H → va_D A (wM cI aM S1) → va_S A s.heap H locs → W p l e (rmL 2) s m args below meth c H locs 0 0 Q (F0 m pc ls []) := by
    intro pc ls H locs S1 hd h hP hD hS; cases h; exact RET (x_vret C hd) hP hD hS
  have B39 : ∀ (S : MS), bfX6_begins_39 S = some q → ∀ (H : Heap) (locs : List Loc) (ls : Array Slot), va_P D vwCl (wM cI aM S) H → va_D A (wM cI aM S) → va_S A s.heap H locs → lv_has ls 2 [(0, .ref (aM 0))] → W p l e (rmL 2) s m args below meth c H locs 0 0 Q (F0 m 39 ls []) := by
    intro S h H locs ls hP hD hS hl
    refine x_aload_n C dX6_begins_39 rfl hl 0 rfl ?_
    refine x_dup C dX6_begins_40 rfl ?_
    refine x_get C inX6 hP 0 rfl rfl 1 (by decide) wf_X6_25 rfl dX6_begins_41 ?_
    refine x_iconst (v := (1 : Int32)) C dX6_begins_44 (by decide) ?_
    refine x_iadd C dX6_begins_45 ?_
    refine x_putM (wM cI aM) C h inX6 tyX6 tyX6_ok nmX6 hP hD hS 0 rfl rfl 1 (by decide) wf_X6_25 rfl (ft := .int) (by decide +kernel) rfl rfl (Nat.le_of_ble_eq_true rfl) rfl dX6_begins_46 (fun S5 h H locs hP hD hS => ?_)
    refine x_aload_n C dX6_begins_49 rfl hl 0 rfl ?_
    refine x_iconst (v := (0 : Int32)) C dX6_begins_50 (by decide) ?_
    refine x_aload_n C dX6_begins_51 rfl hl 0 rfl ?_
    refine x_get C inX6 hP 0 rfl rfl 1 (by decide) wf_X6_25 rfl dX6_begins_52 ?_
    obtain ⟨u6, hu6, h⟩ := ob_some h
    refine x_callV (As := [.int _, .int _]) (n := 2) C (kX6_copies l D cI cS aM _ _ _ hu6) (fun hh => nomatch hh) wm_X6_29 wi_X6_copies we_X6_copies wz_X6 wc_X6_copies (by decide +kernel) rfl hP hD hS hA 0 3 rfl rfl rfl hl.1 dX6_begins_55 rfl (Nat.le_of_ble_eq_true rfl) ⟨Nat.le_of_ble_eq_true rfl, Nat.le_of_ble_eq_true rfl⟩ ⟨Nat.zero_le _, Nat.zero_le _⟩ (fun H locs hP hD hS => ?_)
    exact RETh dX6_begins_58 h hP hD hS
  have B10 : ∀ (n : Nat) (x : Int32 × (MS)), iter (bfX6_begins_10) n x = some q → (match x with | (x1, S) => ∀ (H : Heap) (locs : List Loc) (ls : Array Slot), va_P D vwCl (wM cI aM S) H → va_D A (wM cI aM S) → va_S A s.heap H locs → lv_has ls 2 [(0, .ref (aM 0)), (1, .int x1)] → W p l e (rmL 2) s m args below meth c H locs 0 0 Q (F0 m 10 ls [])) := by
    refine iter_ind (fun x : Int32 × (MS) => (match x with | (x1, S) => ∀ (H : Heap) (locs : List Loc) (ls : Array Slot), va_P D vwCl (wM cI aM S) H → va_D A (wM cI aM S) → va_S A s.heap H locs → lv_has ls 2 [(0, .ref (aM 0)), (1, .int x1)] → W p l e (rmL 2) s m args below meth c H locs 0 0 Q (F0 m 10 ls []))) ?_
    intro K10 ih10 x h
    obtain ⟨x1, S⟩ := x
    intro H locs ls hP hD hS hl
    refine x_iload_n C dX6_begins_10 rfl hl 1 rfl ?_
    refine x_iconst (v := (4 : Int32)) C dX6_begins_11 (by decide) ?_
    refine x_icmp_ge (tgt := 29) C h dX6_begins_12 (by decide) (fun h => ?_) (fun h => ?_)
    · refine x_aload_n C dX6_begins_29 rfl hl 0 rfl ?_
      refine x_dup C dX6_begins_30 rfl ?_
      refine x_get C inX6 hP 0 rfl rfl 1 (by decide) wf_X6_25 rfl dX6_begins_31 ?_
      refine x_iconst (v := (1 : Int32)) C dX6_begins_34 (by decide) ?_
      refine x_isub C dX6_begins_35 ?_
      refine x_putM (wM cI aM) C h inX6 tyX6 tyX6_ok nmX6 hP hD hS 0 rfl rfl 1 (by decide) wf_X6_25 rfl (ft := .int) (by decide +kernel) rfl rfl (Nat.le_of_ble_eq_true rfl) rfl dX6_begins_36 (fun S7 h H locs hP hD hS => ?_)
      exact B39 _ h _ _ _ hP hD hS (lv_sub hl [0] rfl)
    · refine x_aload_n C dX6_begins_15 rfl hl 0 rfl ?_
      refine x_iload_n C dX6_begins_16 rfl hl 1 rfl ?_
      refine x_iconst (v := (1 : Int32)) C dX6_begins_17 (by decide) ?_
      refine x_iadd C dX6_begins_18 ?_
      refine x_iload_n C dX6_begins_19 rfl hl 1 rfl ?_
      obtain ⟨u8, hu8, h⟩ := ob_some h
      refine x_callV (As := [.int _, .int _]) (n := 2) C (kX6_copies l D cI cS aM _ _ _ hu8) (fun hh => nomatch hh) wm_X6_29 wi_X6_copies we_X6_copies wz_X6 wc_X6_copies (by decide +kernel) rfl hP hD hS hA 0 3 rfl rfl rfl hl.1 dX6_begins_20 rfl (Nat.le_of_ble_eq_true rfl) ⟨Nat.le_of_ble_eq_true rfl, Nat.le_of_ble_eq_true rfl⟩ ⟨Nat.zero_le _, Nat.zero_le _⟩ (fun H locs hP hD hS => ?_)
      refine x_iinc (v := (x1 + (1 : Int32))) (lv' := [(1, .int (x1 + (1 : Int32))), (0, .ref (aM 0))]) C dX6_begins_23 hl (k := 1) rfl rfl (by decide) rfl (fun ls hl => ?_)
      refine x_goto (tgt := 10) C dX6_begins_26 (by decide) ?_
      exact ih10 _ h _ _ _ hP hD hS (lv_sub hl [1, 0] rfl)
  refine x_aload_n C dX6_begins_0 rfl hl 0 rfl ?_
  refine x_get C inX6 hP 0 rfl rfl 1 (by decide) wf_X6_25 rfl dX6_begins_1 ?_
  refine x_iconst (v := (4 : Int32)) C dX6_begins_4 (by decide) ?_
  refine x_icmp_ne (tgt := 39) C h dX6_begins_5 (by decide) (fun h => ?_) (fun h => ?_)
  · exact B39 _ h _ _ _ hP hD hS hl
  · refine x_iconst (v := (1 : Int32)) C dX6_begins_8 (by decide) ?_
    refine x_istore_n (lv' := [(1, .int (1 : Int32)), (0, .ref (aM 0))]) C dX6_begins_9 rfl hl (by decide) rfl (fun ls hl => ?_)
    exact B10 FU _ h _ _ _ hP hD hS (lv_sub hl [1, 0] rfl)
theorem dX6_freeSlot_0 : decode cX6_freeSlot 0 = .ok (.iconst 0, 1) := by decide +kernel
theorem dX6_freeSlot_1 : decode cX6_freeSlot 1 = .ok (.istore_n 1, 1) := by decide +kernel
theorem dX6_freeSlot_2 : decode cX6_freeSlot 2 = .ok (.aload_n 0, 1) := by decide +kernel
theorem dX6_freeSlot_3 : decode cX6_freeSlot 3 = .ok (.getfield 7, 3) := by decide +kernel
theorem dX6_freeSlot_6 : decode cX6_freeSlot 6 = .ok (.aload_n 0, 1) := by decide +kernel
theorem dX6_freeSlot_7 : decode cX6_freeSlot 7 = .ok (.iload_n 1, 1) := by decide +kernel
theorem dX6_freeSlot_8 : decode cX6_freeSlot 8 = .ok (.invokevirtual 74, 3) := by decide +kernel
theorem dX6_freeSlot_11 : decode cX6_freeSlot 11 = .ok (.bipush 9, 2) := by decide +kernel
theorem dX6_freeSlot_13 : decode cX6_freeSlot 13 = .ok (.iadd, 1) := by decide +kernel
theorem dX6_freeSlot_14 : decode cX6_freeSlot 14 = .ok (.iaload, 1) := by decide +kernel
theorem dX6_freeSlot_15 : decode cX6_freeSlot 15 = .ok (.iconst 1, 1) := by decide +kernel
theorem dX6_freeSlot_16 : decode cX6_freeSlot 16 = .ok (.if_icmp .ne 9, 3) := by decide +kernel
theorem dX6_freeSlot_19 : decode cX6_freeSlot 19 = .ok (.iinc 1 1, 3) := by decide +kernel
theorem dX6_freeSlot_22 : decode cX6_freeSlot 22 = .ok (.goto (-20), 3) := by decide +kernel
theorem dX6_freeSlot_25 : decode cX6_freeSlot 25 = .ok (.iload_n 1, 1) := by decide +kernel
theorem dX6_freeSlot_26 : decode cX6_freeSlot 26 = .ok (.ireturn, 1) := by decide +kernel
def bfX6_freeSlot_2 (S : MS) (K2 : Int32 → Option (Int32)) (x1 : Int32) : Option (Int32) :=
  ob (fX6_slot x1 S) fun u2 => (if okI (u2 + (9 : Int32)) 5130 then (if (S.1 ((u2 + (9 : Int32))).toNatClampNeg) = (1 : Int32) then K2 ((x1 + (1 : Int32))) else some x1) else none)
def fX6_freeSlot (S : MS) : Option (Int32) :=
  iter (bfX6_freeSlot_2 S) FU ((0 : Int32))
set_option maxHeartbeats 4000000 in
set_option maxRecDepth 100000 in
theorem kX6_freeSlot (l : Launch) (D : va_G) (cI cS : ClassId) (aM : Nat → Nat) (S : MS) {q : Int32} (h : fX6_freeSlot S = some q) : Mc l D (tyL cI cS) false yX6_freeSlot cX6_freeSlot 2 (some .int) 2 [.ref (aM 0)] (wM cI aM S) (some (.int q)) (wM cI aM S) := by
  refine Mc_of RX6 (by decide +kernel) rfl wc_X6_freeSlot (Nat.le_of_ble_eq_true rfl) ?_
  intro p e s m args below meth c A Q ls C hA hz hP hD hS hl RET
  have RETh : ∀ {pc : Nat} {ls : Array Slot} {H : Heap} {locs : List Loc} {x : Int32} , decode cX6_freeSlot pc = .ok (.ireturn, 1) → some x = some q → va_P D vwCl (wM cI aM S) H → va_D A (wM cI aM S) → va_S A s.heap H locs → W p l e (rmL 2) s m args below meth c H locs 0 0 Q (F0 m pc ls [.int x]) := by
    intro pc ls H locs x hd h hP hD hS; cases h; exact RET (x_iret C hd) hP hD hS
  have B2 : ∀ (n : Nat) (x : Int32), iter (bfX6_freeSlot_2 S) n x = some q → (fun (x1 : Int32) => ∀ (H : Heap) (locs : List Loc) (ls : Array Slot), va_P D vwCl (wM cI aM S) H → va_D A (wM cI aM S) → va_S A s.heap H locs → lv_has ls 2 [(0, .ref (aM 0)), (1, .int x1)] → W p l e (rmL 2) s m args below meth c H locs 0 0 Q (F0 m 2 ls [])) x := by
    refine iter_ind (fun x : Int32 => (fun (x1 : Int32) => ∀ (H : Heap) (locs : List Loc) (ls : Array Slot), va_P D vwCl (wM cI aM S) H → va_D A (wM cI aM S) → va_S A s.heap H locs → lv_has ls 2 [(0, .ref (aM 0)), (1, .int x1)] → W p l e (rmL 2) s m args below meth c H locs 0 0 Q (F0 m 2 ls [])) x) ?_
    intro K2 ih2 x h
    obtain ⟨x1, rfl⟩ : ∃ y, y = x := ⟨_, rfl⟩
    intro H locs ls hP hD hS hl
    refine x_aload_n C dX6_freeSlot_2 rfl hl 0 rfl ?_
    refine x_get C inX6 hP 0 rfl rfl 0 (by decide) wf_X6_7 rfl dX6_freeSlot_3 ?_
    refine x_aload_n C dX6_freeSlot_6 rfl hl 0 rfl ?_
    refine x_iload_n C dX6_freeSlot_7 rfl hl 1 rfl ?_
    obtain ⟨u2, hu2, h⟩ := ob_some h
    refine x_callV (As := [.int _]) (n := 1) C (kX6_slot l D cI cS aM _ _ hu2) (fun hh => nomatch hh) wm_X6_74 wi_X6_slot we_X6_slot wz_X6 wc_X6_slot (by decide +kernel) rfl hP hD hS hA 0 3 rfl rfl rfl hl.1 dX6_freeSlot_8 rfl (Nat.le_of_ble_eq_true rfl) ⟨Nat.le_of_ble_eq_true rfl, Nat.le_of_ble_eq_true rfl⟩ ⟨Nat.zero_le _, Nat.zero_le _⟩ (fun H locs hP hD hS => ?_)
    refine x_bipush (v := (9 : Int32)) C dX6_freeSlot_11 (by decide) ?_
    refine x_iadd C dX6_freeSlot_13 ?_
    refine x_iald C h hP 1 rfl (t0 := 0) rfl dX6_freeSlot_14 (fun h => ?_)
    refine x_iconst (v := (1 : Int32)) C dX6_freeSlot_15 (by decide) ?_
    refine x_icmp_ne (tgt := 25) C h dX6_freeSlot_16 (by decide) (fun h => ?_) (fun h => ?_)
    · refine x_iload_n C dX6_freeSlot_25 rfl hl 1 rfl ?_
      exact RETh dX6_freeSlot_26 h hP hD hS
    · refine x_iinc (v := (x1 + (1 : Int32))) (lv' := [(1, .int (x1 + (1 : Int32))), (0, .ref (aM 0))]) C dX6_freeSlot_19 hl (k := 1) rfl rfl (by decide) rfl (fun ls hl => ?_)
      refine x_goto (tgt := 2) C dX6_freeSlot_22 (by decide) ?_
      exact ih2 _ h _ _ _ hP hD hS (lv_sub hl [1, 0] rfl)
  refine x_iconst (v := (0 : Int32)) C dX6_freeSlot_0 (by decide) ?_
  refine x_istore_n (lv' := [(1, .int (0 : Int32)), (0, .ref (aM 0))]) C dX6_freeSlot_1 rfl hl (by decide) rfl (fun ls hl => ?_)
  exact B2 FU _ h _ _ _ hP hD hS (lv_sub hl [1, 0] rfl)
theorem dX6_joins_0 : decode cX6_joins 0 = .ok (.aload_n 0, 1) := by decide +kernel
theorem dX6_joins_1 : decode cX6_joins 1 = .ok (.getfield 7, 3) := by decide +kernel
theorem dX6_joins_4 : decode cX6_joins 4 = .ok (.iload_n 2, 1) := by decide +kernel
theorem dX6_joins_5 : decode cX6_joins 5 = .ok (.aload_n 0, 1) := by decide +kernel
theorem dX6_joins_6 : decode cX6_joins 6 = .ok (.getfield 7, 3) := by decide +kernel
theorem dX6_joins_9 : decode cX6_joins 9 = .ok (.iload_n 1, 1) := by decide +kernel
theorem dX6_joins_10 : decode cX6_joins 10 = .ok (.iaload, 1) := by decide +kernel
theorem dX6_joins_11 : decode cX6_joins 11 = .ok (.iadd, 1) := by decide +kernel
theorem dX6_joins_12 : decode cX6_joins 12 = .ok (.iload_n 3, 1) := by decide +kernel
theorem dX6_joins_13 : decode cX6_joins 13 = .ok (.iastore, 1) := by decide +kernel
theorem dX6_joins_14 : decode cX6_joins 14 = .ok (.aload_n 0, 1) := by decide +kernel
theorem dX6_joins_15 : decode cX6_joins 15 = .ok (.getfield 7, 3) := by decide +kernel
theorem dX6_joins_18 : decode cX6_joins 18 = .ok (.iload_n 1, 1) := by decide +kernel
theorem dX6_joins_19 : decode cX6_joins 19 = .ok (.dup2, 1) := by decide +kernel
theorem dX6_joins_20 : decode cX6_joins 20 = .ok (.iaload, 1) := by decide +kernel
theorem dX6_joins_21 : decode cX6_joins 21 = .ok (.iconst 1, 1) := by decide +kernel
theorem dX6_joins_22 : decode cX6_joins 22 = .ok (.iadd, 1) := by decide +kernel
theorem dX6_joins_23 : decode cX6_joins 23 = .ok (.iastore, 1) := by decide +kernel
theorem dX6_joins_24 : decode cX6_joins 24 = .ok (.return_, 1) := by decide +kernel
def fX6_joins (p1 : Int32) (p2 : Int32) (p3 : Int32) (S : MS) : Option (MS) :=
  (if okI p1 5130 then (if okI (p2 + (S.1 (p1).toNatClampNeg)) 5130 then nm (upd S.1 ((p2 + (S.1 (p1).toNatClampNeg))).toNatClampNeg p3, S.2) fun S3 => (if okI p1 5130 then (if okI p1 5130 then nm (upd S3.1 (p1).toNatClampNeg ((S3.1 (p1).toNatClampNeg) + (1 : Int32)), S3.2) fun S4 => some S4 else none) else none) else none) else none)
set_option maxHeartbeats 4000000 in
set_option maxRecDepth 100000 in
theorem kX6_joins (l : Launch) (D : va_G) (cI cS : ClassId) (aM : Nat → Nat) (p1 : Int32) (p2 : Int32) (p3 : Int32) (S : MS) {q : MS} (h : fX6_joins p1 p2 p3 S = some q) : Mc l D (tyL cI cS) false yX6_joins cX6_joins 4 none 1 [.ref (aM 0), .int p1, .int p2, .int p3] (wM cI aM S) none (wM cI aM q) := by
  refine Mc_of RX6 (by decide +kernel) rfl wc_X6_joins (Nat.le_of_ble_eq_true rfl) ?_
  intro p e s m args below meth c A Q ls C hA hz hP hD hS hl RET
  have RETh : ∀ {pc : Nat} {ls : Array Slot} {H : Heap} {locs : List Loc} {S1 : MS}, decode cX6_joins pc = .ok (.return_, 1) → some S1 = some q → va_P D vwCl (wM cI aM S1) H → va_D A (wM cI aM S1) → va_S A s.heap H locs → W p l e (rmL 1) s m args below meth c H locs 0 0 Q (F0 m pc ls []) := by
    intro pc ls H locs S1 hd h hP hD hS; cases h; exact RET (x_vret C hd) hP hD hS
  refine x_aload_n C dX6_joins_0 rfl hl 0 rfl ?_
  refine x_get C inX6 hP 0 rfl rfl 0 (by decide) wf_X6_7 rfl dX6_joins_1 ?_
  refine x_iload_n C dX6_joins_4 rfl hl 2 rfl ?_
  refine x_aload_n C dX6_joins_5 rfl hl 0 rfl ?_
  refine x_get C inX6 hP 0 rfl rfl 0 (by decide) wf_X6_7 rfl dX6_joins_6 ?_
  refine x_iload_n C dX6_joins_9 rfl hl 1 rfl ?_
  refine x_iald C h hP 1 rfl (t0 := 0) rfl dX6_joins_10 (fun h => ?_)
  refine x_iadd C dX6_joins_11 ?_
  refine x_iload_n C dX6_joins_12 rfl hl 3 rfl ?_
  refine x_iastM (wM cI aM) C h hP hD hS 1 rfl (t0 := 0) rfl rfl dX6_joins_13 (fun S3 h H locs hP hD hS => ?_)
  refine x_aload_n C dX6_joins_14 rfl hl 0 rfl ?_
  refine x_get C inX6 hP 0 rfl rfl 0 (by decide) wf_X6_7 rfl dX6_joins_15 ?_
  refine x_iload_n C dX6_joins_18 rfl hl 1 rfl ?_
  refine x_dup2 C dX6_joins_19 rfl rfl ?_
  refine x_iald C h hP 1 rfl (t0 := 0) rfl dX6_joins_20 (fun h => ?_)
  refine x_iconst (v := (1 : Int32)) C dX6_joins_21 (by decide) ?_
  refine x_iadd C dX6_joins_22 ?_
  refine x_iastM (wM cI aM) C h hP hD hS 1 rfl (t0 := 0) rfl rfl dX6_joins_23 (fun S4 h H locs hP hD hS => ?_)
  exact RETh dX6_joins_24 h hP hD hS
theorem dX6_loses_0 : decode cX6_loses 0 = .ok (.aload_n 0, 1) := by decide +kernel
theorem dX6_loses_1 : decode cX6_loses 1 = .ok (.getfield 7, 3) := by decide +kernel
theorem dX6_loses_4 : decode cX6_loses 4 = .ok (.aload_n 0, 1) := by decide +kernel
theorem dX6_loses_5 : decode cX6_loses 5 = .ok (.iload_n 1, 1) := by decide +kernel
theorem dX6_loses_6 : decode cX6_loses 6 = .ok (.invokevirtual 74, 3) := by decide +kernel
theorem dX6_loses_9 : decode cX6_loses 9 = .ok (.iconst 0, 1) := by decide +kernel
theorem dX6_loses_10 : decode cX6_loses 10 = .ok (.iadd, 1) := by decide +kernel
theorem dX6_loses_11 : decode cX6_loses 11 = .ok (.iaload, 1) := by decide +kernel
theorem dX6_loses_12 : decode cX6_loses 12 = .ok (.istore_n 3, 1) := by decide +kernel
theorem dX6_loses_13 : decode cX6_loses 13 = .ok (.aload_n 0, 1) := by decide +kernel
theorem dX6_loses_14 : decode cX6_loses 14 = .ok (.iload_n 1, 1) := by decide +kernel
theorem dX6_loses_15 : decode cX6_loses 15 = .ok (.iconst 0, 1) := by decide +kernel
theorem dX6_loses_16 : decode cX6_loses 16 = .ok (.invokevirtual 80, 3) := by decide +kernel
theorem dX6_loses_19 : decode cX6_loses 19 = .ok (.iload_n 3, 1) := by decide +kernel
theorem dX6_loses_20 : decode cX6_loses 20 = .ok (.bipush (-8), 2) := by decide +kernel
theorem dX6_loses_22 : decode cX6_loses 22 = .ok (.if_icmp .eq 13, 3) := by decide +kernel
theorem dX6_loses_25 : decode cX6_loses 25 = .ok (.aload_n 0, 1) := by decide +kernel
theorem dX6_loses_26 : decode cX6_loses 26 = .ok (.aload_n 0, 1) := by decide +kernel
theorem dX6_loses_27 : decode cX6_loses 27 = .ok (.iload_n 3, 1) := by decide +kernel
theorem dX6_loses_28 : decode cX6_loses 28 = .ok (.invokevirtual 84, 3) := by decide +kernel
theorem dX6_loses_31 : decode cX6_loses 31 = .ok (.iload_n 2, 1) := by decide +kernel
theorem dX6_loses_32 : decode cX6_loses 32 = .ok (.invokevirtual 87, 3) := by decide +kernel
theorem dX6_loses_35 : decode cX6_loses 35 = .ok (.return_, 1) := by decide +kernel
def bfX6_loses_35 (p1 : Int32) (p2 : Int32) (S : MS) : Option (MS) :=
  some S
def fX6_loses (p1 : Int32) (p2 : Int32) (S : MS) : Option (MS) :=
  ob (fX6_slot p1 S) fun u6 => (if okI (u6 + (0 : Int32)) 5130 then nm ((S.1 ((u6 + (0 : Int32))).toNatClampNeg)) fun v7 => ob (fX6_leaves p1 (0 : Int32) S) fun u8 => (if v7 = (-8 : Int32) then bfX6_loses_35 p1 p2  u8 else ob (fX6_placeOf v7 u8) fun u9 => ob (fX6_fails u9 p2 u8) fun u10 => bfX6_loses_35 p1 p2  u10) else none)
set_option maxHeartbeats 4000000 in
set_option maxRecDepth 100000 in
theorem kX6_loses (l : Launch) (D : va_G) (cI cS : ClassId) (aM : Nat → Nat) (p1 : Int32) (p2 : Int32) (S : MS) {q : MS} (h : fX6_loses p1 p2 S = some q) : Mc l D (tyL cI cS) false yX6_loses cX6_loses 4 none 4 [.ref (aM 0), .int p1, .int p2] (wM cI aM S) none (wM cI aM q) := by
  refine Mc_of RX6 (by decide +kernel) rfl wc_X6_loses (Nat.le_of_ble_eq_true rfl) ?_
  intro p e s m args below meth c A Q ls C hA hz hP hD hS hl RET
  have RETh : ∀ {pc : Nat} {ls : Array Slot} {H : Heap} {locs : List Loc} {S1 : MS}, decode cX6_loses pc = .ok (.return_, 1) → some S1 = some q → va_P D vwCl (wM cI aM S1) H → va_D A (wM cI aM S1) → va_S A s.heap H locs → W p l e (rmL 4) s m args below meth c H locs 0 0 Q (F0 m pc ls []) := by
    intro pc ls H locs S1 hd h hP hD hS; cases h; exact RET (x_vret C hd) hP hD hS
  have B35 : ∀ (S : MS), bfX6_loses_35 p1 p2 S = some q → ∀ (H : Heap) (locs : List Loc) (ls : Array Slot), va_P D vwCl (wM cI aM S) H → va_D A (wM cI aM S) → va_S A s.heap H locs → lv_has ls 4 [] → W p l e (rmL 4) s m args below meth c H locs 0 0 Q (F0 m 35 ls []) := by
    intro S h H locs ls hP hD hS hl
    exact RETh dX6_loses_35 h hP hD hS
  refine x_aload_n C dX6_loses_0 rfl hl 0 rfl ?_
  refine x_get C inX6 hP 0 rfl rfl 0 (by decide) wf_X6_7 rfl dX6_loses_1 ?_
  refine x_aload_n C dX6_loses_4 rfl hl 0 rfl ?_
  refine x_iload_n C dX6_loses_5 rfl hl 1 rfl ?_
  obtain ⟨u6, hu6, h⟩ := ob_some h
  refine x_callV (As := [.int _]) (n := 1) C (kX6_slot l D cI cS aM _ _ hu6) (fun hh => nomatch hh) wm_X6_74 wi_X6_slot we_X6_slot wz_X6 wc_X6_slot (by decide +kernel) rfl hP hD hS hA 0 3 rfl rfl rfl hl.1 dX6_loses_6 rfl (Nat.le_of_ble_eq_true rfl) ⟨Nat.le_of_ble_eq_true rfl, Nat.le_of_ble_eq_true rfl⟩ ⟨Nat.zero_le _, Nat.zero_le _⟩ (fun H locs hP hD hS => ?_)
  refine x_iconst (v := (0 : Int32)) C dX6_loses_9 (by decide) ?_
  refine x_iadd C dX6_loses_10 ?_
  refine x_iald C h hP 1 rfl (t0 := 0) rfl dX6_loses_11 (fun h => ?_)
  refine x_nmi h (fun v7 h => ?_)
  refine x_istore_n (lv' := [(3, .int v7), (0, .ref (aM 0)), (1, .int p1), (2, .int p2)]) C dX6_loses_12 rfl hl (by decide) rfl (fun ls hl => ?_)
  refine x_aload_n C dX6_loses_13 rfl hl 1 rfl ?_
  refine x_iload_n C dX6_loses_14 rfl hl 2 rfl ?_
  refine x_iconst (v := (0 : Int32)) C dX6_loses_15 (by decide) ?_
  obtain ⟨u8, hu8, h⟩ := ob_some h
  refine x_callV (As := [.int _, .int _]) (n := 2) C (kX6_leaves l D cI cS aM _ _ _ hu8) (fun hh => nomatch hh) wm_X6_80 wi_X6_leaves we_X6_leaves wz_X6 wc_X6_leaves (by decide +kernel) rfl hP hD hS hA 0 3 rfl rfl rfl hl.1 dX6_loses_16 rfl (Nat.le_of_ble_eq_true rfl) ⟨Nat.le_of_ble_eq_true rfl, Nat.le_of_ble_eq_true rfl⟩ ⟨Nat.zero_le _, Nat.zero_le _⟩ (fun H locs hP hD hS => ?_)
  refine x_iload_n C dX6_loses_19 rfl hl 0 rfl ?_
  refine x_bipush (v := (-8 : Int32)) C dX6_loses_20 (by decide) ?_
  refine x_icmp_eq (tgt := 35) C h dX6_loses_22 (by decide) (fun h => ?_) (fun h => ?_)
  · exact B35 _ h _ _ _ hP hD hS (lv_sub hl [] rfl)
  · refine x_aload_n C dX6_loses_25 rfl hl 1 rfl ?_
    refine x_aload_n C dX6_loses_26 rfl hl 1 rfl ?_
    refine x_iload_n C dX6_loses_27 rfl hl 0 rfl ?_
    obtain ⟨u9, hu9, h⟩ := ob_some h
    refine x_callV (As := [.int _]) (n := 1) C (kX6_placeOf l D cI cS aM _ _ hu9) (fun hh => nomatch hh) wm_X6_84 wi_X6_placeOf we_X6_placeOf wz_X6 wc_X6_placeOf (by decide +kernel) rfl hP hD hS hA 0 3 rfl rfl rfl hl.1 dX6_loses_28 rfl (Nat.le_of_ble_eq_true rfl) ⟨Nat.le_of_ble_eq_true rfl, Nat.le_of_ble_eq_true rfl⟩ ⟨Nat.zero_le _, Nat.zero_le _⟩ (fun H locs hP hD hS => ?_)
    refine x_iload_n C dX6_loses_31 rfl hl 3 rfl ?_
    obtain ⟨u10, hu10, h⟩ := ob_some h
    refine x_callV (As := [.int _, .int _]) (n := 2) C (kX6_fails l D cI cS aM _ _ _ hu10) (fun hh => nomatch hh) wm_X6_87 wi_X6_fails we_X6_fails wz_X6 wc_X6_fails (by decide +kernel) rfl hP hD hS hA 0 3 rfl rfl rfl hl.1 dX6_loses_32 rfl (Nat.le_of_ble_eq_true rfl) ⟨Nat.le_of_ble_eq_true rfl, Nat.le_of_ble_eq_true rfl⟩ ⟨Nat.zero_le _, Nat.zero_le _⟩ (fun H locs hP hD hS => ?_)
    exact B35 _ h _ _ _ hP hD hS (lv_sub hl [] rfl)
theorem dX6_sends_0 : decode cX6_sends 0 = .ok (.aload_n 0, 1) := by decide +kernel
theorem dX6_sends_1 : decode cX6_sends 1 = .ok (.getfield 7, 3) := by decide +kernel
theorem dX6_sends_4 : decode cX6_sends 4 = .ok (.aload_n 0, 1) := by decide +kernel
theorem dX6_sends_5 : decode cX6_sends 5 = .ok (.iload_n 1, 1) := by decide +kernel
theorem dX6_sends_6 : decode cX6_sends 6 = .ok (.invokevirtual 48, 3) := by decide +kernel
theorem dX6_sends_9 : decode cX6_sends 9 = .ok (.iconst 0, 1) := by decide +kernel
theorem dX6_sends_10 : decode cX6_sends 10 = .ok (.iadd, 1) := by decide +kernel
theorem dX6_sends_11 : decode cX6_sends 11 = .ok (.iaload, 1) := by decide +kernel
theorem dX6_sends_12 : decode cX6_sends 12 = .ok (.istore_n 2, 1) := by decide +kernel
theorem dX6_sends_13 : decode cX6_sends 13 = .ok (.aload_n 0, 1) := by decide +kernel
theorem dX6_sends_14 : decode cX6_sends 14 = .ok (.getfield 7, 3) := by decide +kernel
theorem dX6_sends_17 : decode cX6_sends 17 = .ok (.aload_n 0, 1) := by decide +kernel
theorem dX6_sends_18 : decode cX6_sends 18 = .ok (.iload_n 1, 1) := by decide +kernel
theorem dX6_sends_19 : decode cX6_sends 19 = .ok (.invokevirtual 48, 3) := by decide +kernel
theorem dX6_sends_22 : decode cX6_sends 22 = .ok (.iconst 1, 1) := by decide +kernel
theorem dX6_sends_23 : decode cX6_sends 23 = .ok (.iadd, 1) := by decide +kernel
theorem dX6_sends_24 : decode cX6_sends 24 = .ok (.iaload, 1) := by decide +kernel
theorem dX6_sends_25 : decode cX6_sends 25 = .ok (.istore_n 3, 1) := by decide +kernel
theorem dX6_sends_26 : decode cX6_sends 26 = .ok (.aload_n 0, 1) := by decide +kernel
theorem dX6_sends_27 : decode cX6_sends 27 = .ok (.iload_n 3, 1) := by decide +kernel
theorem dX6_sends_28 : decode cX6_sends 28 = .ok (.iconst 1, 1) := by decide +kernel
theorem dX6_sends_29 : decode cX6_sends 29 = .ok (.iconst 1, 1) := by decide +kernel
theorem dX6_sends_30 : decode cX6_sends 30 = .ok (.invokevirtual 60, 3) := by decide +kernel
theorem dX6_sends_33 : decode cX6_sends 33 = .ok (.aload_n 0, 1) := by decide +kernel
theorem dX6_sends_34 : decode cX6_sends 34 = .ok (.dup, 1) := by decide +kernel
theorem dX6_sends_35 : decode cX6_sends 35 = .ok (.getfield 90, 3) := by decide +kernel
theorem dX6_sends_38 : decode cX6_sends 38 = .ok (.iconst 1, 1) := by decide +kernel
theorem dX6_sends_39 : decode cX6_sends 39 = .ok (.iadd, 1) := by decide +kernel
theorem dX6_sends_40 : decode cX6_sends 40 = .ok (.putfield 90, 3) := by decide +kernel
theorem dX6_sends_43 : decode cX6_sends 43 = .ok (.aload_n 0, 1) := by decide +kernel
theorem dX6_sends_44 : decode cX6_sends 44 = .ok (.getfield 7, 3) := by decide +kernel
theorem dX6_sends_47 : decode cX6_sends 47 = .ok (.aload_n 0, 1) := by decide +kernel
theorem dX6_sends_48 : decode cX6_sends 48 = .ok (.iload_n 1, 1) := by decide +kernel
theorem dX6_sends_49 : decode cX6_sends 49 = .ok (.invokevirtual 48, 3) := by decide +kernel
theorem dX6_sends_52 : decode cX6_sends 52 = .ok (.iconst 3, 1) := by decide +kernel
theorem dX6_sends_53 : decode cX6_sends 53 = .ok (.iadd, 1) := by decide +kernel
theorem dX6_sends_54 : decode cX6_sends 54 = .ok (.dup2, 1) := by decide +kernel
theorem dX6_sends_55 : decode cX6_sends 55 = .ok (.iaload, 1) := by decide +kernel
theorem dX6_sends_56 : decode cX6_sends 56 = .ok (.iconst 1, 1) := by decide +kernel
theorem dX6_sends_57 : decode cX6_sends 57 = .ok (.iadd, 1) := by decide +kernel
theorem dX6_sends_58 : decode cX6_sends 58 = .ok (.iastore, 1) := by decide +kernel
theorem dX6_sends_59 : decode cX6_sends 59 = .ok (.aload_n 0, 1) := by decide +kernel
theorem dX6_sends_60 : decode cX6_sends 60 = .ok (.getfield 7, 3) := by decide +kernel
theorem dX6_sends_63 : decode cX6_sends 63 = .ok (.aload_n 0, 1) := by decide +kernel
theorem dX6_sends_64 : decode cX6_sends 64 = .ok (.iload_n 1, 1) := by decide +kernel
theorem dX6_sends_65 : decode cX6_sends 65 = .ok (.invokevirtual 48, 3) := by decide +kernel
theorem dX6_sends_68 : decode cX6_sends 68 = .ok (.iconst 4, 1) := by decide +kernel
theorem dX6_sends_69 : decode cX6_sends 69 = .ok (.iadd, 1) := by decide +kernel
theorem dX6_sends_70 : decode cX6_sends 70 = .ok (.iconst 0, 1) := by decide +kernel
theorem dX6_sends_71 : decode cX6_sends 71 = .ok (.iastore, 1) := by decide +kernel
theorem dX6_sends_72 : decode cX6_sends 72 = .ok (.aload_n 0, 1) := by decide +kernel
theorem dX6_sends_73 : decode cX6_sends 73 = .ok (.getfield 7, 3) := by decide +kernel
theorem dX6_sends_76 : decode cX6_sends 76 = .ok (.aload_n 0, 1) := by decide +kernel
theorem dX6_sends_77 : decode cX6_sends 77 = .ok (.iload_n 1, 1) := by decide +kernel
theorem dX6_sends_78 : decode cX6_sends 78 = .ok (.invokevirtual 48, 3) := by decide +kernel
theorem dX6_sends_81 : decode cX6_sends 81 = .ok (.iconst 5, 1) := by decide +kernel
theorem dX6_sends_82 : decode cX6_sends 82 = .ok (.iadd, 1) := by decide +kernel
theorem dX6_sends_83 : decode cX6_sends 83 = .ok (.aload_n 0, 1) := by decide +kernel
theorem dX6_sends_84 : decode cX6_sends 84 = .ok (.getfield 67, 3) := by decide +kernel
theorem dX6_sends_87 : decode cX6_sends 87 = .ok (.aload_n 0, 1) := by decide +kernel
theorem dX6_sends_88 : decode cX6_sends 88 = .ok (.iload_n 3, 1) := by decide +kernel
theorem dX6_sends_89 : decode cX6_sends 89 = .ok (.iconst 4, 1) := by decide +kernel
theorem dX6_sends_90 : decode cX6_sends 90 = .ok (.invokevirtual 44, 3) := by decide +kernel
theorem dX6_sends_93 : decode cX6_sends 93 = .ok (.iadd, 1) := by decide +kernel
theorem dX6_sends_94 : decode cX6_sends 94 = .ok (.aload_n 0, 1) := by decide +kernel
theorem dX6_sends_95 : decode cX6_sends 95 = .ok (.getfield 7, 3) := by decide +kernel
theorem dX6_sends_98 : decode cX6_sends 98 = .ok (.aload_n 0, 1) := by decide +kernel
theorem dX6_sends_99 : decode cX6_sends 99 = .ok (.iload_n 1, 1) := by decide +kernel
theorem dX6_sends_100 : decode cX6_sends 100 = .ok (.invokevirtual 48, 3) := by decide +kernel
theorem dX6_sends_103 : decode cX6_sends 103 = .ok (.iconst 2, 1) := by decide +kernel
theorem dX6_sends_104 : decode cX6_sends 104 = .ok (.iadd, 1) := by decide +kernel
theorem dX6_sends_105 : decode cX6_sends 105 = .ok (.iaload, 1) := by decide +kernel
theorem dX6_sends_106 : decode cX6_sends 106 = .ok (.invokestatic 53, 3) := by decide +kernel
theorem dX6_sends_109 : decode cX6_sends 109 = .ok (.iastore, 1) := by decide +kernel
theorem dX6_sends_110 : decode cX6_sends 110 = .ok (.aload_n 0, 1) := by decide +kernel
theorem dX6_sends_111 : decode cX6_sends 111 = .ok (.getfield 7, 3) := by decide +kernel
theorem dX6_sends_114 : decode cX6_sends 114 = .ok (.aload_n 0, 1) := by decide +kernel
theorem dX6_sends_115 : decode cX6_sends 115 = .ok (.iload_n 1, 1) := by decide +kernel
theorem dX6_sends_116 : decode cX6_sends 116 = .ok (.invokevirtual 48, 3) := by decide +kernel
theorem dX6_sends_119 : decode cX6_sends 119 = .ok (.bipush 7, 2) := by decide +kernel
theorem dX6_sends_121 : decode cX6_sends 121 = .ok (.iadd, 1) := by decide +kernel
theorem dX6_sends_122 : decode cX6_sends 122 = .ok (.bipush (-9), 2) := by decide +kernel
theorem dX6_sends_124 : decode cX6_sends 124 = .ok (.iastore, 1) := by decide +kernel
theorem dX6_sends_125 : decode cX6_sends 125 = .ok (.aload_n 0, 1) := by decide +kernel
theorem dX6_sends_126 : decode cX6_sends 126 = .ok (.getfield 7, 3) := by decide +kernel
theorem dX6_sends_129 : decode cX6_sends 129 = .ok (.aload_n 0, 1) := by decide +kernel
theorem dX6_sends_130 : decode cX6_sends 130 = .ok (.iload_n 1, 1) := by decide +kernel
theorem dX6_sends_131 : decode cX6_sends 131 = .ok (.invokevirtual 48, 3) := by decide +kernel
theorem dX6_sends_134 : decode cX6_sends 134 = .ok (.iconst 5, 1) := by decide +kernel
theorem dX6_sends_135 : decode cX6_sends 135 = .ok (.iadd, 1) := by decide +kernel
theorem dX6_sends_136 : decode cX6_sends 136 = .ok (.iaload, 1) := by decide +kernel
theorem dX6_sends_137 : decode cX6_sends 137 = .ok (.istore 4, 2) := by decide +kernel
theorem dX6_sends_139 : decode cX6_sends 139 = .ok (.aload_n 0, 1) := by decide +kernel
theorem dX6_sends_140 : decode cX6_sends 140 = .ok (.getfield 7, 3) := by decide +kernel
theorem dX6_sends_143 : decode cX6_sends 143 = .ok (.sipush 557, 3) := by decide +kernel
theorem dX6_sends_146 : decode cX6_sends 146 = .ok (.iaload, 1) := by decide +kernel
theorem dX6_sends_147 : decode cX6_sends 147 = .ok (.aload_n 0, 1) := by decide +kernel
theorem dX6_sends_148 : decode cX6_sends 148 = .ok (.getfield 7, 3) := by decide +kernel
theorem dX6_sends_151 : decode cX6_sends 151 = .ok (.sipush 175, 3) := by decide +kernel
theorem dX6_sends_154 : decode cX6_sends 154 = .ok (.iaload, 1) := by decide +kernel
theorem dX6_sends_155 : decode cX6_sends 155 = .ok (.if_icmp .ne 34, 3) := by decide +kernel
theorem dX6_sends_158 : decode cX6_sends 158 = .ok (.aload_n 0, 1) := by decide +kernel
theorem dX6_sends_159 : decode cX6_sends 159 = .ok (.iconst 0, 1) := by decide +kernel
theorem dX6_sends_160 : decode cX6_sends 160 = .ok (.invokevirtual 93, 3) := by decide +kernel
theorem dX6_sends_163 : decode cX6_sends 163 = .ok (.ifCond .ne 10, 3) := by decide +kernel
theorem dX6_sends_166 : decode cX6_sends 166 = .ok (.aload_n 0, 1) := by decide +kernel
theorem dX6_sends_167 : decode cX6_sends 167 = .ok (.iload_n 1, 1) := by decide +kernel
theorem dX6_sends_168 : decode cX6_sends 168 = .ok (.iconst 4, 1) := by decide +kernel
theorem dX6_sends_169 : decode cX6_sends 169 = .ok (.invokevirtual 87, 3) := by decide +kernel
theorem dX6_sends_172 : decode cX6_sends 172 = .ok (.return_, 1) := by decide +kernel
theorem dX6_sends_173 : decode cX6_sends 173 = .ok (.aload_n 0, 1) := by decide +kernel
theorem dX6_sends_174 : decode cX6_sends 174 = .ok (.aload_n 0, 1) := by decide +kernel
theorem dX6_sends_175 : decode cX6_sends 175 = .ok (.sipush 557, 3) := by decide +kernel
theorem dX6_sends_178 : decode cX6_sends 178 = .ok (.sipush 558, 3) := by decide +kernel
theorem dX6_sends_181 : decode cX6_sends 181 = .ok (.iconst 0, 1) := by decide +kernel
theorem dX6_sends_182 : decode cX6_sends 182 = .ok (.invokevirtual 96, 3) := by decide +kernel
theorem dX6_sends_185 : decode cX6_sends 185 = .ok (.iconst 4, 1) := by decide +kernel
theorem dX6_sends_186 : decode cX6_sends 186 = .ok (.invokevirtual 100, 3) := by decide +kernel
theorem dX6_sends_189 : decode cX6_sends 189 = .ok (.aload_n 0, 1) := by decide +kernel
theorem dX6_sends_190 : decode cX6_sends 190 = .ok (.invokevirtual 103, 3) := by decide +kernel
theorem dX6_sends_193 : decode cX6_sends 193 = .ok (.istore 5, 2) := by decide +kernel
theorem dX6_sends_195 : decode cX6_sends 195 = .ok (.aload_n 0, 1) := by decide +kernel
theorem dX6_sends_196 : decode cX6_sends 196 = .ok (.getfield 7, 3) := by decide +kernel
theorem dX6_sends_199 : decode cX6_sends 199 = .ok (.aload_n 0, 1) := by decide +kernel
theorem dX6_sends_200 : decode cX6_sends 200 = .ok (.iload 5, 2) := by decide +kernel
theorem dX6_sends_202 : decode cX6_sends 202 = .ok (.invokevirtual 74, 3) := by decide +kernel
theorem dX6_sends_205 : decode cX6_sends 205 = .ok (.bipush 9, 2) := by decide +kernel
theorem dX6_sends_207 : decode cX6_sends 207 = .ok (.iadd, 1) := by decide +kernel
theorem dX6_sends_208 : decode cX6_sends 208 = .ok (.iconst 1, 1) := by decide +kernel
theorem dX6_sends_209 : decode cX6_sends 209 = .ok (.iastore, 1) := by decide +kernel
theorem dX6_sends_210 : decode cX6_sends 210 = .ok (.aload_n 0, 1) := by decide +kernel
theorem dX6_sends_211 : decode cX6_sends 211 = .ok (.getfield 7, 3) := by decide +kernel
theorem dX6_sends_214 : decode cX6_sends 214 = .ok (.aload_n 0, 1) := by decide +kernel
theorem dX6_sends_215 : decode cX6_sends 215 = .ok (.iload 5, 2) := by decide +kernel
theorem dX6_sends_217 : decode cX6_sends 217 = .ok (.invokevirtual 74, 3) := by decide +kernel
theorem dX6_sends_220 : decode cX6_sends 220 = .ok (.iconst 0, 1) := by decide +kernel
theorem dX6_sends_221 : decode cX6_sends 221 = .ok (.iadd, 1) := by decide +kernel
theorem dX6_sends_222 : decode cX6_sends 222 = .ok (.iload_n 2, 1) := by decide +kernel
theorem dX6_sends_223 : decode cX6_sends 223 = .ok (.iastore, 1) := by decide +kernel
theorem dX6_sends_224 : decode cX6_sends 224 = .ok (.aload_n 0, 1) := by decide +kernel
theorem dX6_sends_225 : decode cX6_sends 225 = .ok (.getfield 7, 3) := by decide +kernel
theorem dX6_sends_228 : decode cX6_sends 228 = .ok (.aload_n 0, 1) := by decide +kernel
theorem dX6_sends_229 : decode cX6_sends 229 = .ok (.iload 5, 2) := by decide +kernel
theorem dX6_sends_231 : decode cX6_sends 231 = .ok (.invokevirtual 74, 3) := by decide +kernel
theorem dX6_sends_234 : decode cX6_sends 234 = .ok (.iconst 1, 1) := by decide +kernel
theorem dX6_sends_235 : decode cX6_sends 235 = .ok (.iadd, 1) := by decide +kernel
theorem dX6_sends_236 : decode cX6_sends 236 = .ok (.iload 4, 2) := by decide +kernel
theorem dX6_sends_238 : decode cX6_sends 238 = .ok (.iastore, 1) := by decide +kernel
theorem dX6_sends_239 : decode cX6_sends 239 = .ok (.aload_n 0, 1) := by decide +kernel
theorem dX6_sends_240 : decode cX6_sends 240 = .ok (.getfield 7, 3) := by decide +kernel
theorem dX6_sends_243 : decode cX6_sends 243 = .ok (.aload_n 0, 1) := by decide +kernel
theorem dX6_sends_244 : decode cX6_sends 244 = .ok (.iload 5, 2) := by decide +kernel
theorem dX6_sends_246 : decode cX6_sends 246 = .ok (.invokevirtual 74, 3) := by decide +kernel
theorem dX6_sends_249 : decode cX6_sends 249 = .ok (.iconst 2, 1) := by decide +kernel
theorem dX6_sends_250 : decode cX6_sends 250 = .ok (.iadd, 1) := by decide +kernel
theorem dX6_sends_251 : decode cX6_sends 251 = .ok (.aload_n 0, 1) := by decide +kernel
theorem dX6_sends_252 : decode cX6_sends 252 = .ok (.iload_n 3, 1) := by decide +kernel
theorem dX6_sends_253 : decode cX6_sends 253 = .ok (.bipush 8, 2) := by decide +kernel
theorem dX6_sends_255 : decode cX6_sends 255 = .ok (.invokevirtual 44, 3) := by decide +kernel
theorem dX6_sends_258 : decode cX6_sends 258 = .ok (.iastore, 1) := by decide +kernel
theorem dX6_sends_259 : decode cX6_sends 259 = .ok (.aload_n 0, 1) := by decide +kernel
theorem dX6_sends_260 : decode cX6_sends 260 = .ok (.getfield 7, 3) := by decide +kernel
theorem dX6_sends_263 : decode cX6_sends 263 = .ok (.aload_n 0, 1) := by decide +kernel
theorem dX6_sends_264 : decode cX6_sends 264 = .ok (.iload 5, 2) := by decide +kernel
theorem dX6_sends_266 : decode cX6_sends 266 = .ok (.invokevirtual 74, 3) := by decide +kernel
theorem dX6_sends_269 : decode cX6_sends 269 = .ok (.iconst 3, 1) := by decide +kernel
theorem dX6_sends_270 : decode cX6_sends 270 = .ok (.iadd, 1) := by decide +kernel
theorem dX6_sends_271 : decode cX6_sends 271 = .ok (.aload_n 0, 1) := by decide +kernel
theorem dX6_sends_272 : decode cX6_sends 272 = .ok (.iload_n 3, 1) := by decide +kernel
theorem dX6_sends_273 : decode cX6_sends 273 = .ok (.bipush 8, 2) := by decide +kernel
theorem dX6_sends_275 : decode cX6_sends 275 = .ok (.invokevirtual 44, 3) := by decide +kernel
theorem dX6_sends_278 : decode cX6_sends 278 = .ok (.iastore, 1) := by decide +kernel
theorem dX6_sends_279 : decode cX6_sends 279 = .ok (.aload_n 0, 1) := by decide +kernel
theorem dX6_sends_280 : decode cX6_sends 280 = .ok (.getfield 7, 3) := by decide +kernel
theorem dX6_sends_283 : decode cX6_sends 283 = .ok (.aload_n 0, 1) := by decide +kernel
theorem dX6_sends_284 : decode cX6_sends 284 = .ok (.iload 5, 2) := by decide +kernel
theorem dX6_sends_286 : decode cX6_sends 286 = .ok (.invokevirtual 74, 3) := by decide +kernel
theorem dX6_sends_289 : decode cX6_sends 289 = .ok (.iconst 4, 1) := by decide +kernel
theorem dX6_sends_290 : decode cX6_sends 290 = .ok (.iadd, 1) := by decide +kernel
theorem dX6_sends_291 : decode cX6_sends 291 = .ok (.aload_n 0, 1) := by decide +kernel
theorem dX6_sends_292 : decode cX6_sends 292 = .ok (.iload_n 3, 1) := by decide +kernel
theorem dX6_sends_293 : decode cX6_sends 293 = .ok (.bipush 9, 2) := by decide +kernel
theorem dX6_sends_295 : decode cX6_sends 295 = .ok (.invokevirtual 44, 3) := by decide +kernel
theorem dX6_sends_298 : decode cX6_sends 298 = .ok (.iastore, 1) := by decide +kernel
theorem dX6_sends_299 : decode cX6_sends 299 = .ok (.aload_n 0, 1) := by decide +kernel
theorem dX6_sends_300 : decode cX6_sends 300 = .ok (.getfield 7, 3) := by decide +kernel
theorem dX6_sends_303 : decode cX6_sends 303 = .ok (.aload_n 0, 1) := by decide +kernel
theorem dX6_sends_304 : decode cX6_sends 304 = .ok (.iload 5, 2) := by decide +kernel
theorem dX6_sends_306 : decode cX6_sends 306 = .ok (.invokevirtual 74, 3) := by decide +kernel
theorem dX6_sends_309 : decode cX6_sends 309 = .ok (.iconst 5, 1) := by decide +kernel
theorem dX6_sends_310 : decode cX6_sends 310 = .ok (.iadd, 1) := by decide +kernel
theorem dX6_sends_311 : decode cX6_sends 311 = .ok (.aload_n 0, 1) := by decide +kernel
theorem dX6_sends_312 : decode cX6_sends 312 = .ok (.iload_n 3, 1) := by decide +kernel
theorem dX6_sends_313 : decode cX6_sends 313 = .ok (.bipush 9, 2) := by decide +kernel
theorem dX6_sends_315 : decode cX6_sends 315 = .ok (.invokevirtual 44, 3) := by decide +kernel
theorem dX6_sends_318 : decode cX6_sends 318 = .ok (.iastore, 1) := by decide +kernel
theorem dX6_sends_319 : decode cX6_sends 319 = .ok (.aload_n 0, 1) := by decide +kernel
theorem dX6_sends_320 : decode cX6_sends 320 = .ok (.getfield 7, 3) := by decide +kernel
theorem dX6_sends_323 : decode cX6_sends 323 = .ok (.aload_n 0, 1) := by decide +kernel
theorem dX6_sends_324 : decode cX6_sends 324 = .ok (.iload 5, 2) := by decide +kernel
theorem dX6_sends_326 : decode cX6_sends 326 = .ok (.invokevirtual 74, 3) := by decide +kernel
theorem dX6_sends_329 : decode cX6_sends 329 = .ok (.bipush 6, 2) := by decide +kernel
theorem dX6_sends_331 : decode cX6_sends 331 = .ok (.iadd, 1) := by decide +kernel
theorem dX6_sends_332 : decode cX6_sends 332 = .ok (.iconst 0, 1) := by decide +kernel
theorem dX6_sends_333 : decode cX6_sends 333 = .ok (.iastore, 1) := by decide +kernel
theorem dX6_sends_334 : decode cX6_sends 334 = .ok (.aload_n 0, 1) := by decide +kernel
theorem dX6_sends_335 : decode cX6_sends 335 = .ok (.getfield 7, 3) := by decide +kernel
theorem dX6_sends_338 : decode cX6_sends 338 = .ok (.aload_n 0, 1) := by decide +kernel
theorem dX6_sends_339 : decode cX6_sends 339 = .ok (.iload 5, 2) := by decide +kernel
theorem dX6_sends_341 : decode cX6_sends 341 = .ok (.invokevirtual 74, 3) := by decide +kernel
theorem dX6_sends_344 : decode cX6_sends 344 = .ok (.bipush 7, 2) := by decide +kernel
theorem dX6_sends_346 : decode cX6_sends 346 = .ok (.iadd, 1) := by decide +kernel
theorem dX6_sends_347 : decode cX6_sends 347 = .ok (.iconst 1, 1) := by decide +kernel
theorem dX6_sends_348 : decode cX6_sends 348 = .ok (.iastore, 1) := by decide +kernel
theorem dX6_sends_349 : decode cX6_sends 349 = .ok (.aload_n 0, 1) := by decide +kernel
theorem dX6_sends_350 : decode cX6_sends 350 = .ok (.getfield 7, 3) := by decide +kernel
theorem dX6_sends_353 : decode cX6_sends 353 = .ok (.aload_n 0, 1) := by decide +kernel
theorem dX6_sends_354 : decode cX6_sends 354 = .ok (.iload 5, 2) := by decide +kernel
theorem dX6_sends_356 : decode cX6_sends 356 = .ok (.invokevirtual 74, 3) := by decide +kernel
theorem dX6_sends_359 : decode cX6_sends 359 = .ok (.bipush 8, 2) := by decide +kernel
theorem dX6_sends_361 : decode cX6_sends 361 = .ok (.iadd, 1) := by decide +kernel
theorem dX6_sends_362 : decode cX6_sends 362 = .ok (.bipush (-9), 2) := by decide +kernel
theorem dX6_sends_364 : decode cX6_sends 364 = .ok (.iastore, 1) := by decide +kernel
theorem dX6_sends_365 : decode cX6_sends 365 = .ok (.aload_n 0, 1) := by decide +kernel
theorem dX6_sends_366 : decode cX6_sends 366 = .ok (.getfield 7, 3) := by decide +kernel
theorem dX6_sends_369 : decode cX6_sends 369 = .ok (.aload_n 0, 1) := by decide +kernel
theorem dX6_sends_370 : decode cX6_sends 370 = .ok (.aload_n 0, 1) := by decide +kernel
theorem dX6_sends_371 : decode cX6_sends 371 = .ok (.iload_n 2, 1) := by decide +kernel
theorem dX6_sends_372 : decode cX6_sends 372 = .ok (.invokevirtual 84, 3) := by decide +kernel
theorem dX6_sends_375 : decode cX6_sends 375 = .ok (.invokevirtual 48, 3) := by decide +kernel
theorem dX6_sends_378 : decode cX6_sends 378 = .ok (.bipush 7, 2) := by decide +kernel
theorem dX6_sends_380 : decode cX6_sends 380 = .ok (.iadd, 1) := by decide +kernel
theorem dX6_sends_381 : decode cX6_sends 381 = .ok (.iload 5, 2) := by decide +kernel
theorem dX6_sends_383 : decode cX6_sends 383 = .ok (.iastore, 1) := by decide +kernel
theorem dX6_sends_384 : decode cX6_sends 384 = .ok (.aload_n 0, 1) := by decide +kernel
theorem dX6_sends_385 : decode cX6_sends 385 = .ok (.sipush 557, 3) := by decide +kernel
theorem dX6_sends_388 : decode cX6_sends 388 = .ok (.sipush 558, 3) := by decide +kernel
theorem dX6_sends_391 : decode cX6_sends 391 = .ok (.iload 5, 2) := by decide +kernel
theorem dX6_sends_393 : decode cX6_sends 393 = .ok (.invokevirtual 106, 3) := by decide +kernel
theorem dX6_sends_396 : decode cX6_sends 396 = .ok (.return_, 1) := by decide +kernel
def bfX6_sends_189 (p1 : Int32) (x2 : Int32) (x3 : Int32) (x4 : Int32) (S : MS) : Option (MS) :=
  ob (fX6_freeSlot  S) fun u53 => ob (fX6_slot u53 S) fun u54 => (if okI (u54 + (9 : Int32)) 5130 then nm (upd S.1 ((u54 + (9 : Int32))).toNatClampNeg (1 : Int32), S.2) fun S55 => ob (fX6_slot u53 S55) fun u56 => (if okI (u56 + (0 : Int32)) 5130 then nm (upd S55.1 ((u56 + (0 : Int32))).toNatClampNeg x2, S55.2) fun S57 => ob (fX6_slot u53 S57) fun u58 => (if okI (u58 + (1 : Int32)) 5130 then nm (upd S57.1 ((u58 + (1 : Int32))).toNatClampNeg x4, S57.2) fun S59 => ob (fX6_slot u53 S59) fun u60 => ob (fX6_of x3 (8 : Int32) S59) fun u61 => (if okI (u60 + (2 : Int32)) 5130 then nm (upd S59.1 ((u60 + (2 : Int32))).toNatClampNeg u61, S59.2) fun S62 => ob (fX6_slot u53 S62) fun u63 => ob (fX6_of x3 (8 : Int32) S62) fun u64 => (if okI (u63 + (3 : Int32)) 5130 then nm (upd S62.1 ((u63 + (3 : Int32))).toNatClampNeg u64, S62.2) fun S65 => ob (fX6_slot u53 S65) fun u66 => ob (fX6_of x3 (9 : Int32) S65) fun u67 => (if okI (u66 + (4 : Int32)) 5130 then nm (upd S65.1 ((u66 + (4 : Int32))).toNatClampNeg u67, S65.2) fun S68 => ob (fX6_slot u53 S68) fun u69 => ob (fX6_of x3 (9 : Int32) S68) fun u70 => (if okI (u69 + (5 : Int32)) 5130 then nm (upd S68.1 ((u69 + (5 : Int32))).toNatClampNeg u70, S68.2) fun S71 => ob (fX6_slot u53 S71) fun u72 => (if okI (u72 + (6 : Int32)) 5130 then nm (upd S71.1 ((u72 + (6 : Int32))).toNatClampNeg (0 : Int32), S71.2) fun S73 => ob (fX6_slot u53 S73) fun u74 => (if okI (u74 + (7 : Int32)) 5130 then nm (upd S73.1 ((u74 + (7 : Int32))).toNatClampNeg (1 : Int32), S73.2) fun S75 => ob (fX6_slot u53 S75) fun u76 => (if okI (u76 + (8 : Int32)) 5130 then nm (upd S75.1 ((u76 + (8 : Int32))).toNatClampNeg (-9 : Int32), S75.2) fun S77 => ob (fX6_placeOf x2 S77) fun u78 => ob (fX6_row u78 S77) fun u79 => (if okI (u79 + (7 : Int32)) 5130 then nm (upd S77.1 ((u79 + (7 : Int32))).toNatClampNeg u53, S77.2) fun S80 => ob (fX6_joins (557 : Int32) (558 : Int32) u53 S80) fun u81 => some u81 else none) else none) else none) else none) else none) else none) else none) else none) else none) else none) else none)
def fX6_sends (p1 : Int32) (S : MS) : Option (MS) :=
  ob (fX6_row p1 S) fun u82 => (if okI (u82 + (0 : Int32)) 5130 then nm ((S.1 ((u82 + (0 : Int32))).toNatClampNeg)) fun v83 => ob (fX6_row p1 S) fun u84 => (if okI (u84 + (1 : Int32)) 5130 then nm ((S.1 ((u84 + (1 : Int32))).toNatClampNeg)) fun v85 => ob (fX6_counts v85 (1 : Int32) (1 : Int32) S) fun u86 => nm (u86.1, u86.2.1, upd u86.2.2 7 ((u86.2.2 7) + (1 : Int32))) fun S87 => ob (fX6_row p1 S87) fun u88 => (if okI (u88 + (3 : Int32)) 5130 then (if okI (u88 + (3 : Int32)) 5130 then nm (upd S87.1 ((u88 + (3 : Int32))).toNatClampNeg ((S87.1 ((u88 + (3 : Int32))).toNatClampNeg) + (1 : Int32)), S87.2) fun S89 => ob (fX6_row p1 S89) fun u90 => (if okI (u90 + (4 : Int32)) 5130 then nm (upd S89.1 ((u90 + (4 : Int32))).toNatClampNeg (0 : Int32), S89.2) fun S91 => ob (fX6_row p1 S91) fun u92 => ob (fX6_of v85 (4 : Int32) S91) fun u93 => ob (fX6_row p1 S91) fun u94 => (if okI (u94 + (2 : Int32)) 5130 then ob (fX6_least (((S91.2.2 5) + u93)) ((S91.1 ((u94 + (2 : Int32))).toNatClampNeg))) fun u95 => (if okI (u92 + (5 : Int32)) 5130 then nm (upd S91.1 ((u92 + (5 : Int32))).toNatClampNeg u95, S91.2) fun S96 => ob (fX6_row p1 S96) fun u97 => (if okI (u97 + (7 : Int32)) 5130 then nm (upd S96.1 ((u97 + (7 : Int32))).toNatClampNeg (-9 : Int32), S96.2) fun S98 => ob (fX6_row p1 S98) fun u99 => (if okI (u99 + (5 : Int32)) 5130 then nm ((S98.1 ((u99 + (5 : Int32))).toNatClampNeg)) fun v100 => (if (S98.1 ((557 : Int32)).toNatClampNeg) = (S98.1 ((175 : Int32)).toNatClampNeg) then ob (fX6_isOn (0 : Int32) S98) fun u101 => (if u101 = 0 then ob (fX6_fails p1 (4 : Int32) S98) fun u104 => some u104 else ob (fX6_pulls (557 : Int32) (558 : Int32) (0 : Int32) S98) fun u102 => ob (fX6_loses u102.1 (4 : Int32) u102.2) fun u103 => bfX6_sends_189 p1  v83 v85 v100 u103) else bfX6_sends_189 p1  v83 v85 v100 S98) else none) else none) else none) else none) else none) else none) else none) else none) else none)
set_option maxHeartbeats 4000000 in
set_option maxRecDepth 100000 in
theorem kX6_sends (l : Launch) (D : va_G) (cI cS : ClassId) (aM : Nat → Nat) (p1 : Int32) (S : MS) {q : MS} (h : fX6_sends p1 S = some q) : Mc l D (tyL cI cS) false yX6_sends cX6_sends 6 none 5 [.ref (aM 0), .int p1] (wM cI aM S) none (wM cI aM q) := by
  refine Mc_of RX6 (by decide +kernel) rfl wc_X6_sends (Nat.le_of_ble_eq_true rfl) ?_
  intro p e s m args below meth c A Q ls C hA hz hP hD hS hl RET
  have RETh : ∀ {pc : Nat} {ls : Array Slot} {H : Heap} {locs : List Loc} {S1 : MS}, decode cX6_sends pc = .ok (.return_, 1) → some S1 = some q → va_P D vwCl (wM cI aM S1) H → va_D A (wM cI aM S1) → va_S A s.heap H locs → W p l e (rmL 5) s m args below meth c H locs 0 0 Q (F0 m pc ls []) := by
    intro pc ls H locs S1 hd h hP hD hS; cases h; exact RET (x_vret C hd) hP hD hS
  have B189 : ∀ (x2 : Int32) (x3 : Int32) (x4 : Int32) (S : MS), bfX6_sends_189 p1 x2 x3 x4 S = some q → ∀ (H : Heap) (locs : List Loc) (ls : Array Slot), va_P D vwCl (wM cI aM S) H → va_D A (wM cI aM S) → va_S A s.heap H locs → lv_has ls 6 [(0, .ref (aM 0)), (2, .int x2), (3, .int x3), (4, .int x4)] → W p l e (rmL 5) s m args below meth c H locs 0 0 Q (F0 m 189 ls []) := by
    intro x2 x3 x4 S h H locs ls hP hD hS hl
    refine x_aload_n C dX6_sends_189 rfl hl 0 rfl ?_
    obtain ⟨u53, hu53, h⟩ := ob_some h
    refine x_callV (As := []) (n := 0) C (kX6_freeSlot l D cI cS aM  _ hu53) (fun hh => nomatch hh) wm_X6_103 wi_X6_freeSlot we_X6_freeSlot wz_X6 wc_X6_freeSlot (by decide +kernel) rfl hP hD hS hA 0 3 rfl rfl rfl hl.1 dX6_sends_190 rfl (Nat.le_of_ble_eq_true rfl) ⟨Nat.le_of_ble_eq_true rfl, Nat.le_of_ble_eq_true rfl⟩ ⟨Nat.zero_le _, Nat.zero_le _⟩ (fun H locs hP hD hS => ?_)
    refine x_istore (lv' := [(5, .int u53), (0, .ref (aM 0)), (2, .int x2), (3, .int x3), (4, .int x4)]) C dX6_sends_193 hl (by decide) rfl (fun ls hl => ?_)
    refine x_aload_n C dX6_sends_195 rfl hl 1 rfl ?_
    refine x_get C inX6 hP 0 rfl rfl 0 (by decide) wf_X6_7 rfl dX6_sends_196 ?_
    refine x_aload_n C dX6_sends_199 rfl hl 1 rfl ?_
    refine x_iload C dX6_sends_200 hl 0 rfl ?_
    obtain ⟨u54, hu54, h⟩ := ob_some h
    refine x_callV (As := [.int _]) (n := 1) C (kX6_slot l D cI cS aM _ _ hu54) (fun hh => nomatch hh) wm_X6_74 wi_X6_slot we_X6_slot wz_X6 wc_X6_slot (by decide +kernel) rfl hP hD hS hA 0 3 rfl rfl rfl hl.1 dX6_sends_202 rfl (Nat.le_of_ble_eq_true rfl) ⟨Nat.le_of_ble_eq_true rfl, Nat.le_of_ble_eq_true rfl⟩ ⟨Nat.zero_le _, Nat.zero_le _⟩ (fun H locs hP hD hS => ?_)
    refine x_bipush (v := (9 : Int32)) C dX6_sends_205 (by decide) ?_
    refine x_iadd C dX6_sends_207 ?_
    refine x_iconst (v := (1 : Int32)) C dX6_sends_208 (by decide) ?_
    refine x_iastM (wM cI aM) C h hP hD hS 1 rfl (t0 := 0) rfl rfl dX6_sends_209 (fun S55 h H locs hP hD hS => ?_)
    refine x_aload_n C dX6_sends_210 rfl hl 1 rfl ?_
    refine x_get C inX6 hP 0 rfl rfl 0 (by decide) wf_X6_7 rfl dX6_sends_211 ?_
    refine x_aload_n C dX6_sends_214 rfl hl 1 rfl ?_
    refine x_iload C dX6_sends_215 hl 0 rfl ?_
    obtain ⟨u56, hu56, h⟩ := ob_some h
    refine x_callV (As := [.int _]) (n := 1) C (kX6_slot l D cI cS aM _ _ hu56) (fun hh => nomatch hh) wm_X6_74 wi_X6_slot we_X6_slot wz_X6 wc_X6_slot (by decide +kernel) rfl hP hD hS hA 0 3 rfl rfl rfl hl.1 dX6_sends_217 rfl (Nat.le_of_ble_eq_true rfl) ⟨Nat.le_of_ble_eq_true rfl, Nat.le_of_ble_eq_true rfl⟩ ⟨Nat.zero_le _, Nat.zero_le _⟩ (fun H locs hP hD hS => ?_)
    refine x_iconst (v := (0 : Int32)) C dX6_sends_220 (by decide) ?_
    refine x_iadd C dX6_sends_221 ?_
    refine x_iload_n C dX6_sends_222 rfl hl 2 rfl ?_
    refine x_iastM (wM cI aM) C h hP hD hS 1 rfl (t0 := 0) rfl rfl dX6_sends_223 (fun S57 h H locs hP hD hS => ?_)
    refine x_aload_n C dX6_sends_224 rfl hl 1 rfl ?_
    refine x_get C inX6 hP 0 rfl rfl 0 (by decide) wf_X6_7 rfl dX6_sends_225 ?_
    refine x_aload_n C dX6_sends_228 rfl hl 1 rfl ?_
    refine x_iload C dX6_sends_229 hl 0 rfl ?_
    obtain ⟨u58, hu58, h⟩ := ob_some h
    refine x_callV (As := [.int _]) (n := 1) C (kX6_slot l D cI cS aM _ _ hu58) (fun hh => nomatch hh) wm_X6_74 wi_X6_slot we_X6_slot wz_X6 wc_X6_slot (by decide +kernel) rfl hP hD hS hA 0 3 rfl rfl rfl hl.1 dX6_sends_231 rfl (Nat.le_of_ble_eq_true rfl) ⟨Nat.le_of_ble_eq_true rfl, Nat.le_of_ble_eq_true rfl⟩ ⟨Nat.zero_le _, Nat.zero_le _⟩ (fun H locs hP hD hS => ?_)
    refine x_iconst (v := (1 : Int32)) C dX6_sends_234 (by decide) ?_
    refine x_iadd C dX6_sends_235 ?_
    refine x_iload C dX6_sends_236 hl 4 rfl ?_
    refine x_iastM (wM cI aM) C h hP hD hS 1 rfl (t0 := 0) rfl rfl dX6_sends_238 (fun S59 h H locs hP hD hS => ?_)
    refine x_aload_n C dX6_sends_239 rfl hl 1 rfl ?_
    refine x_get C inX6 hP 0 rfl rfl 0 (by decide) wf_X6_7 rfl dX6_sends_240 ?_
    refine x_aload_n C dX6_sends_243 rfl hl 1 rfl ?_
    refine x_iload C dX6_sends_244 hl 0 rfl ?_
    obtain ⟨u60, hu60, h⟩ := ob_some h
    refine x_callV (As := [.int _]) (n := 1) C (kX6_slot l D cI cS aM _ _ hu60) (fun hh => nomatch hh) wm_X6_74 wi_X6_slot we_X6_slot wz_X6 wc_X6_slot (by decide +kernel) rfl hP hD hS hA 0 3 rfl rfl rfl hl.1 dX6_sends_246 rfl (Nat.le_of_ble_eq_true rfl) ⟨Nat.le_of_ble_eq_true rfl, Nat.le_of_ble_eq_true rfl⟩ ⟨Nat.zero_le _, Nat.zero_le _⟩ (fun H locs hP hD hS => ?_)
    refine x_iconst (v := (2 : Int32)) C dX6_sends_249 (by decide) ?_
    refine x_iadd C dX6_sends_250 ?_
    refine x_aload_n C dX6_sends_251 rfl hl 1 rfl ?_
    refine x_iload_n C dX6_sends_252 rfl hl 3 rfl ?_
    refine x_bipush (v := (8 : Int32)) C dX6_sends_253 (by decide) ?_
    obtain ⟨u61, hu61, h⟩ := ob_some h
    refine x_callV (As := [.int _, .int _]) (n := 2) C (kX6_of l D cI cS aM _ _ _ hu61) (fun hh => nomatch hh) wm_X6_44 wi_X6_of we_X6_of wz_X6 wc_X6_of (by decide +kernel) rfl hP hD hS hA 0 3 rfl rfl rfl hl.1 dX6_sends_255 rfl (Nat.le_of_ble_eq_true rfl) ⟨Nat.le_of_ble_eq_true rfl, Nat.le_of_ble_eq_true rfl⟩ ⟨Nat.zero_le _, Nat.zero_le _⟩ (fun H locs hP hD hS => ?_)
    refine x_iastM (wM cI aM) C h hP hD hS 1 rfl (t0 := 0) rfl rfl dX6_sends_258 (fun S62 h H locs hP hD hS => ?_)
    refine x_aload_n C dX6_sends_259 rfl hl 1 rfl ?_
    refine x_get C inX6 hP 0 rfl rfl 0 (by decide) wf_X6_7 rfl dX6_sends_260 ?_
    refine x_aload_n C dX6_sends_263 rfl hl 1 rfl ?_
    refine x_iload C dX6_sends_264 hl 0 rfl ?_
    obtain ⟨u63, hu63, h⟩ := ob_some h
    refine x_callV (As := [.int _]) (n := 1) C (kX6_slot l D cI cS aM _ _ hu63) (fun hh => nomatch hh) wm_X6_74 wi_X6_slot we_X6_slot wz_X6 wc_X6_slot (by decide +kernel) rfl hP hD hS hA 0 3 rfl rfl rfl hl.1 dX6_sends_266 rfl (Nat.le_of_ble_eq_true rfl) ⟨Nat.le_of_ble_eq_true rfl, Nat.le_of_ble_eq_true rfl⟩ ⟨Nat.zero_le _, Nat.zero_le _⟩ (fun H locs hP hD hS => ?_)
    refine x_iconst (v := (3 : Int32)) C dX6_sends_269 (by decide) ?_
    refine x_iadd C dX6_sends_270 ?_
    refine x_aload_n C dX6_sends_271 rfl hl 1 rfl ?_
    refine x_iload_n C dX6_sends_272 rfl hl 3 rfl ?_
    refine x_bipush (v := (8 : Int32)) C dX6_sends_273 (by decide) ?_
    obtain ⟨u64, hu64, h⟩ := ob_some h
    refine x_callV (As := [.int _, .int _]) (n := 2) C (kX6_of l D cI cS aM _ _ _ hu64) (fun hh => nomatch hh) wm_X6_44 wi_X6_of we_X6_of wz_X6 wc_X6_of (by decide +kernel) rfl hP hD hS hA 0 3 rfl rfl rfl hl.1 dX6_sends_275 rfl (Nat.le_of_ble_eq_true rfl) ⟨Nat.le_of_ble_eq_true rfl, Nat.le_of_ble_eq_true rfl⟩ ⟨Nat.zero_le _, Nat.zero_le _⟩ (fun H locs hP hD hS => ?_)
    refine x_iastM (wM cI aM) C h hP hD hS 1 rfl (t0 := 0) rfl rfl dX6_sends_278 (fun S65 h H locs hP hD hS => ?_)
    refine x_aload_n C dX6_sends_279 rfl hl 1 rfl ?_
    refine x_get C inX6 hP 0 rfl rfl 0 (by decide) wf_X6_7 rfl dX6_sends_280 ?_
    refine x_aload_n C dX6_sends_283 rfl hl 1 rfl ?_
    refine x_iload C dX6_sends_284 hl 0 rfl ?_
    obtain ⟨u66, hu66, h⟩ := ob_some h
    refine x_callV (As := [.int _]) (n := 1) C (kX6_slot l D cI cS aM _ _ hu66) (fun hh => nomatch hh) wm_X6_74 wi_X6_slot we_X6_slot wz_X6 wc_X6_slot (by decide +kernel) rfl hP hD hS hA 0 3 rfl rfl rfl hl.1 dX6_sends_286 rfl (Nat.le_of_ble_eq_true rfl) ⟨Nat.le_of_ble_eq_true rfl, Nat.le_of_ble_eq_true rfl⟩ ⟨Nat.zero_le _, Nat.zero_le _⟩ (fun H locs hP hD hS => ?_)
    refine x_iconst (v := (4 : Int32)) C dX6_sends_289 (by decide) ?_
    refine x_iadd C dX6_sends_290 ?_
    refine x_aload_n C dX6_sends_291 rfl hl 1 rfl ?_
    refine x_iload_n C dX6_sends_292 rfl hl 3 rfl ?_
    refine x_bipush (v := (9 : Int32)) C dX6_sends_293 (by decide) ?_
    obtain ⟨u67, hu67, h⟩ := ob_some h
    refine x_callV (As := [.int _, .int _]) (n := 2) C (kX6_of l D cI cS aM _ _ _ hu67) (fun hh => nomatch hh) wm_X6_44 wi_X6_of we_X6_of wz_X6 wc_X6_of (by decide +kernel) rfl hP hD hS hA 0 3 rfl rfl rfl hl.1 dX6_sends_295 rfl (Nat.le_of_ble_eq_true rfl) ⟨Nat.le_of_ble_eq_true rfl, Nat.le_of_ble_eq_true rfl⟩ ⟨Nat.zero_le _, Nat.zero_le _⟩ (fun H locs hP hD hS => ?_)
    refine x_iastM (wM cI aM) C h hP hD hS 1 rfl (t0 := 0) rfl rfl dX6_sends_298 (fun S68 h H locs hP hD hS => ?_)
    refine x_aload_n C dX6_sends_299 rfl hl 1 rfl ?_
    refine x_get C inX6 hP 0 rfl rfl 0 (by decide) wf_X6_7 rfl dX6_sends_300 ?_
    refine x_aload_n C dX6_sends_303 rfl hl 1 rfl ?_
    refine x_iload C dX6_sends_304 hl 0 rfl ?_
    obtain ⟨u69, hu69, h⟩ := ob_some h
    refine x_callV (As := [.int _]) (n := 1) C (kX6_slot l D cI cS aM _ _ hu69) (fun hh => nomatch hh) wm_X6_74 wi_X6_slot we_X6_slot wz_X6 wc_X6_slot (by decide +kernel) rfl hP hD hS hA 0 3 rfl rfl rfl hl.1 dX6_sends_306 rfl (Nat.le_of_ble_eq_true rfl) ⟨Nat.le_of_ble_eq_true rfl, Nat.le_of_ble_eq_true rfl⟩ ⟨Nat.zero_le _, Nat.zero_le _⟩ (fun H locs hP hD hS => ?_)
    refine x_iconst (v := (5 : Int32)) C dX6_sends_309 (by decide) ?_
    refine x_iadd C dX6_sends_310 ?_
    refine x_aload_n C dX6_sends_311 rfl hl 1 rfl ?_
    refine x_iload_n C dX6_sends_312 rfl hl 3 rfl ?_
    refine x_bipush (v := (9 : Int32)) C dX6_sends_313 (by decide) ?_
    obtain ⟨u70, hu70, h⟩ := ob_some h
    refine x_callV (As := [.int _, .int _]) (n := 2) C (kX6_of l D cI cS aM _ _ _ hu70) (fun hh => nomatch hh) wm_X6_44 wi_X6_of we_X6_of wz_X6 wc_X6_of (by decide +kernel) rfl hP hD hS hA 0 3 rfl rfl rfl hl.1 dX6_sends_315 rfl (Nat.le_of_ble_eq_true rfl) ⟨Nat.le_of_ble_eq_true rfl, Nat.le_of_ble_eq_true rfl⟩ ⟨Nat.zero_le _, Nat.zero_le _⟩ (fun H locs hP hD hS => ?_)
    refine x_iastM (wM cI aM) C h hP hD hS 1 rfl (t0 := 0) rfl rfl dX6_sends_318 (fun S71 h H locs hP hD hS => ?_)
    refine x_aload_n C dX6_sends_319 rfl hl 1 rfl ?_
    refine x_get C inX6 hP 0 rfl rfl 0 (by decide) wf_X6_7 rfl dX6_sends_320 ?_
    refine x_aload_n C dX6_sends_323 rfl hl 1 rfl ?_
    refine x_iload C dX6_sends_324 hl 0 rfl ?_
    obtain ⟨u72, hu72, h⟩ := ob_some h
    refine x_callV (As := [.int _]) (n := 1) C (kX6_slot l D cI cS aM _ _ hu72) (fun hh => nomatch hh) wm_X6_74 wi_X6_slot we_X6_slot wz_X6 wc_X6_slot (by decide +kernel) rfl hP hD hS hA 0 3 rfl rfl rfl hl.1 dX6_sends_326 rfl (Nat.le_of_ble_eq_true rfl) ⟨Nat.le_of_ble_eq_true rfl, Nat.le_of_ble_eq_true rfl⟩ ⟨Nat.zero_le _, Nat.zero_le _⟩ (fun H locs hP hD hS => ?_)
    refine x_bipush (v := (6 : Int32)) C dX6_sends_329 (by decide) ?_
    refine x_iadd C dX6_sends_331 ?_
    refine x_iconst (v := (0 : Int32)) C dX6_sends_332 (by decide) ?_
    refine x_iastM (wM cI aM) C h hP hD hS 1 rfl (t0 := 0) rfl rfl dX6_sends_333 (fun S73 h H locs hP hD hS => ?_)
    refine x_aload_n C dX6_sends_334 rfl hl 1 rfl ?_
    refine x_get C inX6 hP 0 rfl rfl 0 (by decide) wf_X6_7 rfl dX6_sends_335 ?_
    refine x_aload_n C dX6_sends_338 rfl hl 1 rfl ?_
    refine x_iload C dX6_sends_339 hl 0 rfl ?_
    obtain ⟨u74, hu74, h⟩ := ob_some h
    refine x_callV (As := [.int _]) (n := 1) C (kX6_slot l D cI cS aM _ _ hu74) (fun hh => nomatch hh) wm_X6_74 wi_X6_slot we_X6_slot wz_X6 wc_X6_slot (by decide +kernel) rfl hP hD hS hA 0 3 rfl rfl rfl hl.1 dX6_sends_341 rfl (Nat.le_of_ble_eq_true rfl) ⟨Nat.le_of_ble_eq_true rfl, Nat.le_of_ble_eq_true rfl⟩ ⟨Nat.zero_le _, Nat.zero_le _⟩ (fun H locs hP hD hS => ?_)
    refine x_bipush (v := (7 : Int32)) C dX6_sends_344 (by decide) ?_
    refine x_iadd C dX6_sends_346 ?_
    refine x_iconst (v := (1 : Int32)) C dX6_sends_347 (by decide) ?_
    refine x_iastM (wM cI aM) C h hP hD hS 1 rfl (t0 := 0) rfl rfl dX6_sends_348 (fun S75 h H locs hP hD hS => ?_)
    refine x_aload_n C dX6_sends_349 rfl hl 1 rfl ?_
    refine x_get C inX6 hP 0 rfl rfl 0 (by decide) wf_X6_7 rfl dX6_sends_350 ?_
    refine x_aload_n C dX6_sends_353 rfl hl 1 rfl ?_
    refine x_iload C dX6_sends_354 hl 0 rfl ?_
    obtain ⟨u76, hu76, h⟩ := ob_some h
    refine x_callV (As := [.int _]) (n := 1) C (kX6_slot l D cI cS aM _ _ hu76) (fun hh => nomatch hh) wm_X6_74 wi_X6_slot we_X6_slot wz_X6 wc_X6_slot (by decide +kernel) rfl hP hD hS hA 0 3 rfl rfl rfl hl.1 dX6_sends_356 rfl (Nat.le_of_ble_eq_true rfl) ⟨Nat.le_of_ble_eq_true rfl, Nat.le_of_ble_eq_true rfl⟩ ⟨Nat.zero_le _, Nat.zero_le _⟩ (fun H locs hP hD hS => ?_)
    refine x_bipush (v := (8 : Int32)) C dX6_sends_359 (by decide) ?_
    refine x_iadd C dX6_sends_361 ?_
    refine x_bipush (v := (-9 : Int32)) C dX6_sends_362 (by decide) ?_
    refine x_iastM (wM cI aM) C h hP hD hS 1 rfl (t0 := 0) rfl rfl dX6_sends_364 (fun S77 h H locs hP hD hS => ?_)
    refine x_aload_n C dX6_sends_365 rfl hl 1 rfl ?_
    refine x_get C inX6 hP 0 rfl rfl 0 (by decide) wf_X6_7 rfl dX6_sends_366 ?_
    refine x_aload_n C dX6_sends_369 rfl hl 1 rfl ?_
    refine x_aload_n C dX6_sends_370 rfl hl 1 rfl ?_
    refine x_iload_n C dX6_sends_371 rfl hl 2 rfl ?_
    obtain ⟨u78, hu78, h⟩ := ob_some h
    refine x_callV (As := [.int _]) (n := 1) C (kX6_placeOf l D cI cS aM _ _ hu78) (fun hh => nomatch hh) wm_X6_84 wi_X6_placeOf we_X6_placeOf wz_X6 wc_X6_placeOf (by decide +kernel) rfl hP hD hS hA 0 3 rfl rfl rfl hl.1 dX6_sends_372 rfl (Nat.le_of_ble_eq_true rfl) ⟨Nat.le_of_ble_eq_true rfl, Nat.le_of_ble_eq_true rfl⟩ ⟨Nat.zero_le _, Nat.zero_le _⟩ (fun H locs hP hD hS => ?_)
    obtain ⟨u79, hu79, h⟩ := ob_some h
    refine x_callV (As := [.int _]) (n := 1) C (kX6_row l D cI cS aM _ _ hu79) (fun hh => nomatch hh) wm_X6_48 wi_X6_row we_X6_row wz_X6 wc_X6_row (by decide +kernel) rfl hP hD hS hA 0 3 rfl rfl rfl hl.1 dX6_sends_375 rfl (Nat.le_of_ble_eq_true rfl) ⟨Nat.le_of_ble_eq_true rfl, Nat.le_of_ble_eq_true rfl⟩ ⟨Nat.zero_le _, Nat.zero_le _⟩ (fun H locs hP hD hS => ?_)
    refine x_bipush (v := (7 : Int32)) C dX6_sends_378 (by decide) ?_
    refine x_iadd C dX6_sends_380 ?_
    refine x_iload C dX6_sends_381 hl 0 rfl ?_
    refine x_iastM (wM cI aM) C h hP hD hS 1 rfl (t0 := 0) rfl rfl dX6_sends_383 (fun S80 h H locs hP hD hS => ?_)
    refine x_aload_n C dX6_sends_384 rfl hl 1 rfl ?_
    refine x_sipush (v := (557 : Int32)) C dX6_sends_385 (by decide) ?_
    refine x_sipush (v := (558 : Int32)) C dX6_sends_388 (by decide) ?_
    refine x_iload C dX6_sends_391 hl 0 rfl ?_
    obtain ⟨u81, hu81, h⟩ := ob_some h
    refine x_callV (As := [.int _, .int _, .int _]) (n := 3) C (kX6_joins l D cI cS aM _ _ _ _ hu81) (fun hh => nomatch hh) wm_X6_106 wi_X6_joins we_X6_joins wz_X6 wc_X6_joins (by decide +kernel) rfl hP hD hS hA 0 3 rfl rfl rfl hl.1 dX6_sends_393 rfl (Nat.le_of_ble_eq_true rfl) ⟨Nat.le_of_ble_eq_true rfl, Nat.le_of_ble_eq_true rfl⟩ ⟨Nat.zero_le _, Nat.zero_le _⟩ (fun H locs hP hD hS => ?_)
    exact RETh dX6_sends_396 h hP hD hS
  refine x_aload_n C dX6_sends_0 rfl hl 0 rfl ?_
  refine x_get C inX6 hP 0 rfl rfl 0 (by decide) wf_X6_7 rfl dX6_sends_1 ?_
  refine x_aload_n C dX6_sends_4 rfl hl 0 rfl ?_
  refine x_iload_n C dX6_sends_5 rfl hl 1 rfl ?_
  obtain ⟨u82, hu82, h⟩ := ob_some h
  refine x_callV (As := [.int _]) (n := 1) C (kX6_row l D cI cS aM _ _ hu82) (fun hh => nomatch hh) wm_X6_48 wi_X6_row we_X6_row wz_X6 wc_X6_row (by decide +kernel) rfl hP hD hS hA 0 3 rfl rfl rfl hl.1 dX6_sends_6 rfl (Nat.le_of_ble_eq_true rfl) ⟨Nat.le_of_ble_eq_true rfl, Nat.le_of_ble_eq_true rfl⟩ ⟨Nat.zero_le _, Nat.zero_le _⟩ (fun H locs hP hD hS => ?_)
  refine x_iconst (v := (0 : Int32)) C dX6_sends_9 (by decide) ?_
  refine x_iadd C dX6_sends_10 ?_
  refine x_iald C h hP 1 rfl (t0 := 0) rfl dX6_sends_11 (fun h => ?_)
  refine x_nmi h (fun v83 h => ?_)
  refine x_istore_n (lv' := [(2, .int v83), (0, .ref (aM 0)), (1, .int p1)]) C dX6_sends_12 rfl hl (by decide) rfl (fun ls hl => ?_)
  refine x_aload_n C dX6_sends_13 rfl hl 1 rfl ?_
  refine x_get C inX6 hP 0 rfl rfl 0 (by decide) wf_X6_7 rfl dX6_sends_14 ?_
  refine x_aload_n C dX6_sends_17 rfl hl 1 rfl ?_
  refine x_iload_n C dX6_sends_18 rfl hl 2 rfl ?_
  obtain ⟨u84, hu84, h⟩ := ob_some h
  refine x_callV (As := [.int _]) (n := 1) C (kX6_row l D cI cS aM _ _ hu84) (fun hh => nomatch hh) wm_X6_48 wi_X6_row we_X6_row wz_X6 wc_X6_row (by decide +kernel) rfl hP hD hS hA 0 3 rfl rfl rfl hl.1 dX6_sends_19 rfl (Nat.le_of_ble_eq_true rfl) ⟨Nat.le_of_ble_eq_true rfl, Nat.le_of_ble_eq_true rfl⟩ ⟨Nat.zero_le _, Nat.zero_le _⟩ (fun H locs hP hD hS => ?_)
  refine x_iconst (v := (1 : Int32)) C dX6_sends_22 (by decide) ?_
  refine x_iadd C dX6_sends_23 ?_
  refine x_iald C h hP 1 rfl (t0 := 0) rfl dX6_sends_24 (fun h => ?_)
  refine x_nmi h (fun v85 h => ?_)
  refine x_istore_n (lv' := [(3, .int v85), (2, .int v83), (0, .ref (aM 0)), (1, .int p1)]) C dX6_sends_25 rfl hl (by decide) rfl (fun ls hl => ?_)
  refine x_aload_n C dX6_sends_26 rfl hl 2 rfl ?_
  refine x_iload_n C dX6_sends_27 rfl hl 0 rfl ?_
  refine x_iconst (v := (1 : Int32)) C dX6_sends_28 (by decide) ?_
  refine x_iconst (v := (1 : Int32)) C dX6_sends_29 (by decide) ?_
  obtain ⟨u86, hu86, h⟩ := ob_some h
  refine x_callV (As := [.int _, .int _, .int _]) (n := 3) C (kX6_counts l D cI cS aM _ _ _ _ hu86) (fun hh => nomatch hh) wm_X6_60 wi_X6_counts we_X6_counts wz_X6 wc_X6_counts (by decide +kernel) rfl hP hD hS hA 0 3 rfl rfl rfl hl.1 dX6_sends_30 rfl (Nat.le_of_ble_eq_true rfl) ⟨Nat.le_of_ble_eq_true rfl, Nat.le_of_ble_eq_true rfl⟩ ⟨Nat.zero_le _, Nat.zero_le _⟩ (fun H locs hP hD hS => ?_)
  refine x_aload_n C dX6_sends_33 rfl hl 2 rfl ?_
  refine x_dup C dX6_sends_34 rfl ?_
  refine x_get C inX6 hP 0 rfl rfl 7 (by decide) wf_X6_90 rfl dX6_sends_35 ?_
  refine x_iconst (v := (1 : Int32)) C dX6_sends_38 (by decide) ?_
  refine x_iadd C dX6_sends_39 ?_
  refine x_putM (wM cI aM) C h inX6 tyX6 tyX6_ok nmX6 hP hD hS 0 rfl rfl 7 (by decide) wf_X6_90 rfl (ft := .int) (by decide +kernel) rfl rfl (Nat.le_of_ble_eq_true rfl) rfl dX6_sends_40 (fun S87 h H locs hP hD hS => ?_)
  refine x_aload_n C dX6_sends_43 rfl hl 2 rfl ?_
  refine x_get C inX6 hP 0 rfl rfl 0 (by decide) wf_X6_7 rfl dX6_sends_44 ?_
  refine x_aload_n C dX6_sends_47 rfl hl 2 rfl ?_
  refine x_iload_n C dX6_sends_48 rfl hl 3 rfl ?_
  obtain ⟨u88, hu88, h⟩ := ob_some h
  refine x_callV (As := [.int _]) (n := 1) C (kX6_row l D cI cS aM _ _ hu88) (fun hh => nomatch hh) wm_X6_48 wi_X6_row we_X6_row wz_X6 wc_X6_row (by decide +kernel) rfl hP hD hS hA 0 3 rfl rfl rfl hl.1 dX6_sends_49 rfl (Nat.le_of_ble_eq_true rfl) ⟨Nat.le_of_ble_eq_true rfl, Nat.le_of_ble_eq_true rfl⟩ ⟨Nat.zero_le _, Nat.zero_le _⟩ (fun H locs hP hD hS => ?_)
  refine x_iconst (v := (3 : Int32)) C dX6_sends_52 (by decide) ?_
  refine x_iadd C dX6_sends_53 ?_
  refine x_dup2 C dX6_sends_54 rfl rfl ?_
  refine x_iald C h hP 1 rfl (t0 := 0) rfl dX6_sends_55 (fun h => ?_)
  refine x_iconst (v := (1 : Int32)) C dX6_sends_56 (by decide) ?_
  refine x_iadd C dX6_sends_57 ?_
  refine x_iastM (wM cI aM) C h hP hD hS 1 rfl (t0 := 0) rfl rfl dX6_sends_58 (fun S89 h H locs hP hD hS => ?_)
  refine x_aload_n C dX6_sends_59 rfl hl 2 rfl ?_
  refine x_get C inX6 hP 0 rfl rfl 0 (by decide) wf_X6_7 rfl dX6_sends_60 ?_
  refine x_aload_n C dX6_sends_63 rfl hl 2 rfl ?_
  refine x_iload_n C dX6_sends_64 rfl hl 3 rfl ?_
  obtain ⟨u90, hu90, h⟩ := ob_some h
  refine x_callV (As := [.int _]) (n := 1) C (kX6_row l D cI cS aM _ _ hu90) (fun hh => nomatch hh) wm_X6_48 wi_X6_row we_X6_row wz_X6 wc_X6_row (by decide +kernel) rfl hP hD hS hA 0 3 rfl rfl rfl hl.1 dX6_sends_65 rfl (Nat.le_of_ble_eq_true rfl) ⟨Nat.le_of_ble_eq_true rfl, Nat.le_of_ble_eq_true rfl⟩ ⟨Nat.zero_le _, Nat.zero_le _⟩ (fun H locs hP hD hS => ?_)
  refine x_iconst (v := (4 : Int32)) C dX6_sends_68 (by decide) ?_
  refine x_iadd C dX6_sends_69 ?_
  refine x_iconst (v := (0 : Int32)) C dX6_sends_70 (by decide) ?_
  refine x_iastM (wM cI aM) C h hP hD hS 1 rfl (t0 := 0) rfl rfl dX6_sends_71 (fun S91 h H locs hP hD hS => ?_)
  refine x_aload_n C dX6_sends_72 rfl hl 2 rfl ?_
  refine x_get C inX6 hP 0 rfl rfl 0 (by decide) wf_X6_7 rfl dX6_sends_73 ?_
  refine x_aload_n C dX6_sends_76 rfl hl 2 rfl ?_
  refine x_iload_n C dX6_sends_77 rfl hl 3 rfl ?_
  obtain ⟨u92, hu92, h⟩ := ob_some h
  refine x_callV (As := [.int _]) (n := 1) C (kX6_row l D cI cS aM _ _ hu92) (fun hh => nomatch hh) wm_X6_48 wi_X6_row we_X6_row wz_X6 wc_X6_row (by decide +kernel) rfl hP hD hS hA 0 3 rfl rfl rfl hl.1 dX6_sends_78 rfl (Nat.le_of_ble_eq_true rfl) ⟨Nat.le_of_ble_eq_true rfl, Nat.le_of_ble_eq_true rfl⟩ ⟨Nat.zero_le _, Nat.zero_le _⟩ (fun H locs hP hD hS => ?_)
  refine x_iconst (v := (5 : Int32)) C dX6_sends_81 (by decide) ?_
  refine x_iadd C dX6_sends_82 ?_
  refine x_aload_n C dX6_sends_83 rfl hl 2 rfl ?_
  refine x_get C inX6 hP 0 rfl rfl 5 (by decide) wf_X6_67 rfl dX6_sends_84 ?_
  refine x_aload_n C dX6_sends_87 rfl hl 2 rfl ?_
  refine x_iload_n C dX6_sends_88 rfl hl 0 rfl ?_
  refine x_iconst (v := (4 : Int32)) C dX6_sends_89 (by decide) ?_
  obtain ⟨u93, hu93, h⟩ := ob_some h
  refine x_callV (As := [.int _, .int _]) (n := 2) C (kX6_of l D cI cS aM _ _ _ hu93) (fun hh => nomatch hh) wm_X6_44 wi_X6_of we_X6_of wz_X6 wc_X6_of (by decide +kernel) rfl hP hD hS hA 0 3 rfl rfl rfl hl.1 dX6_sends_90 rfl (Nat.le_of_ble_eq_true rfl) ⟨Nat.le_of_ble_eq_true rfl, Nat.le_of_ble_eq_true rfl⟩ ⟨Nat.zero_le _, Nat.zero_le _⟩ (fun H locs hP hD hS => ?_)
  refine x_iadd C dX6_sends_93 ?_
  refine x_aload_n C dX6_sends_94 rfl hl 2 rfl ?_
  refine x_get C inX6 hP 0 rfl rfl 0 (by decide) wf_X6_7 rfl dX6_sends_95 ?_
  refine x_aload_n C dX6_sends_98 rfl hl 2 rfl ?_
  refine x_iload_n C dX6_sends_99 rfl hl 3 rfl ?_
  obtain ⟨u94, hu94, h⟩ := ob_some h
  refine x_callV (As := [.int _]) (n := 1) C (kX6_row l D cI cS aM _ _ hu94) (fun hh => nomatch hh) wm_X6_48 wi_X6_row we_X6_row wz_X6 wc_X6_row (by decide +kernel) rfl hP hD hS hA 0 3 rfl rfl rfl hl.1 dX6_sends_100 rfl (Nat.le_of_ble_eq_true rfl) ⟨Nat.le_of_ble_eq_true rfl, Nat.le_of_ble_eq_true rfl⟩ ⟨Nat.zero_le _, Nat.zero_le _⟩ (fun H locs hP hD hS => ?_)
  refine x_iconst (v := (2 : Int32)) C dX6_sends_103 (by decide) ?_
  refine x_iadd C dX6_sends_104 ?_
  refine x_iald C h hP 1 rfl (t0 := 0) rfl dX6_sends_105 (fun h => ?_)
  obtain ⟨u95, hu95, h⟩ := ob_some h
  refine x_callS (As := [.int _, .int _]) (n := 2) C (kX6_least l D cI cS _ _ _ hu95) (fun hh => nomatch hh) wm_X6_53 wt_X6_least wz_X6 wc_X6_least (by decide +kernel) rfl hP hD hS hA hl.1 dX6_sends_106 rfl (Nat.le_of_ble_eq_true rfl) ⟨Nat.le_of_ble_eq_true rfl, Nat.le_of_ble_eq_true rfl⟩ ⟨Nat.zero_le _, Nat.zero_le _⟩ (fun H locs hP hD hS => ?_)
  refine x_iastM (wM cI aM) C h hP hD hS 1 rfl (t0 := 0) rfl rfl dX6_sends_109 (fun S96 h H locs hP hD hS => ?_)
  refine x_aload_n C dX6_sends_110 rfl hl 2 rfl ?_
  refine x_get C inX6 hP 0 rfl rfl 0 (by decide) wf_X6_7 rfl dX6_sends_111 ?_
  refine x_aload_n C dX6_sends_114 rfl hl 2 rfl ?_
  refine x_iload_n C dX6_sends_115 rfl hl 3 rfl ?_
  obtain ⟨u97, hu97, h⟩ := ob_some h
  refine x_callV (As := [.int _]) (n := 1) C (kX6_row l D cI cS aM _ _ hu97) (fun hh => nomatch hh) wm_X6_48 wi_X6_row we_X6_row wz_X6 wc_X6_row (by decide +kernel) rfl hP hD hS hA 0 3 rfl rfl rfl hl.1 dX6_sends_116 rfl (Nat.le_of_ble_eq_true rfl) ⟨Nat.le_of_ble_eq_true rfl, Nat.le_of_ble_eq_true rfl⟩ ⟨Nat.zero_le _, Nat.zero_le _⟩ (fun H locs hP hD hS => ?_)
  refine x_bipush (v := (7 : Int32)) C dX6_sends_119 (by decide) ?_
  refine x_iadd C dX6_sends_121 ?_
  refine x_bipush (v := (-9 : Int32)) C dX6_sends_122 (by decide) ?_
  refine x_iastM (wM cI aM) C h hP hD hS 1 rfl (t0 := 0) rfl rfl dX6_sends_124 (fun S98 h H locs hP hD hS => ?_)
  refine x_aload_n C dX6_sends_125 rfl hl 2 rfl ?_
  refine x_get C inX6 hP 0 rfl rfl 0 (by decide) wf_X6_7 rfl dX6_sends_126 ?_
  refine x_aload_n C dX6_sends_129 rfl hl 2 rfl ?_
  refine x_iload_n C dX6_sends_130 rfl hl 3 rfl ?_
  obtain ⟨u99, hu99, h⟩ := ob_some h
  refine x_callV (As := [.int _]) (n := 1) C (kX6_row l D cI cS aM _ _ hu99) (fun hh => nomatch hh) wm_X6_48 wi_X6_row we_X6_row wz_X6 wc_X6_row (by decide +kernel) rfl hP hD hS hA 0 3 rfl rfl rfl hl.1 dX6_sends_131 rfl (Nat.le_of_ble_eq_true rfl) ⟨Nat.le_of_ble_eq_true rfl, Nat.le_of_ble_eq_true rfl⟩ ⟨Nat.zero_le _, Nat.zero_le _⟩ (fun H locs hP hD hS => ?_)
  refine x_iconst (v := (5 : Int32)) C dX6_sends_134 (by decide) ?_
  refine x_iadd C dX6_sends_135 ?_
  refine x_iald C h hP 1 rfl (t0 := 0) rfl dX6_sends_136 (fun h => ?_)
  refine x_nmi h (fun v100 h => ?_)
  refine x_istore (lv' := [(4, .int v100), (3, .int v85), (2, .int v83), (0, .ref (aM 0)), (1, .int p1)]) C dX6_sends_137 hl (by decide) rfl (fun ls hl => ?_)
  refine x_aload_n C dX6_sends_139 rfl hl 3 rfl ?_
  refine x_get C inX6 hP 0 rfl rfl 0 (by decide) wf_X6_7 rfl dX6_sends_140 ?_
  refine x_sipush (v := (557 : Int32)) C dX6_sends_143 (by decide) ?_
  refine x_ialdK C (by decide) hP 1 rfl (t0 := 0) rfl dX6_sends_146 ?_
  refine x_aload_n C dX6_sends_147 rfl hl 3 rfl ?_
  refine x_get C inX6 hP 0 rfl rfl 0 (by decide) wf_X6_7 rfl dX6_sends_148 ?_
  refine x_sipush (v := (175 : Int32)) C dX6_sends_151 (by decide) ?_
  refine x_ialdK C (by decide) hP 1 rfl (t0 := 0) rfl dX6_sends_154 ?_
  refine x_icmp_ne (tgt := 189) C h dX6_sends_155 (by decide) (fun h => ?_) (fun h => ?_)
  · exact B189 _ _ _ _ h _ _ _ hP hD hS (lv_sub hl [3, 2, 1, 0] rfl)
  · refine x_aload_n C dX6_sends_158 rfl hl 3 rfl ?_
    refine x_iconst (v := (0 : Int32)) C dX6_sends_159 (by decide) ?_
    obtain ⟨u101, hu101, h⟩ := ob_some h
    refine x_callV (As := [.int _]) (n := 1) C (kX6_isOn l D cI cS aM _ _ hu101) (fun hh => nomatch hh) wm_X6_93 wi_X6_isOn we_X6_isOn wz_X6 wc_X6_isOn (by decide +kernel) rfl hP hD hS hA 0 3 rfl rfl rfl hl.1 dX6_sends_160 rfl (Nat.le_of_ble_eq_true rfl) ⟨Nat.le_of_ble_eq_true rfl, Nat.le_of_ble_eq_true rfl⟩ ⟨Nat.zero_le _, Nat.zero_le _⟩ (fun H locs hP hD hS => ?_)
    refine x_if_ne (tgt := 173) C h dX6_sends_163 (by decide) (fun h => ?_) (fun h => ?_)
    · refine x_aload_n C dX6_sends_173 rfl hl 3 rfl ?_
      refine x_aload_n C dX6_sends_174 rfl hl 3 rfl ?_
      refine x_sipush (v := (557 : Int32)) C dX6_sends_175 (by decide) ?_
      refine x_sipush (v := (558 : Int32)) C dX6_sends_178 (by decide) ?_
      refine x_iconst (v := (0 : Int32)) C dX6_sends_181 (by decide) ?_
      obtain ⟨u102, hu102, h⟩ := ob_some h
      refine x_callV (As := [.int _, .int _, .int _]) (n := 3) C (kX6_pulls l D cI cS aM _ _ _ _ hu102) (fun hh => nomatch hh) wm_X6_96 wi_X6_pulls we_X6_pulls wz_X6 wc_X6_pulls (by decide +kernel) rfl hP hD hS hA 0 3 rfl rfl rfl hl.1 dX6_sends_182 rfl (Nat.le_of_ble_eq_true rfl) ⟨Nat.le_of_ble_eq_true rfl, Nat.le_of_ble_eq_true rfl⟩ ⟨Nat.zero_le _, Nat.zero_le _⟩ (fun H locs hP hD hS => ?_)
      refine x_iconst (v := (4 : Int32)) C dX6_sends_185 (by decide) ?_
      obtain ⟨u103, hu103, h⟩ := ob_some h
      refine x_callV (As := [.int _, .int _]) (n := 2) C (kX6_loses l D cI cS aM _ _ _ hu103) (fun hh => nomatch hh) wm_X6_100 wi_X6_loses we_X6_loses wz_X6 wc_X6_loses (by decide +kernel) rfl hP hD hS hA 0 3 rfl rfl rfl hl.1 dX6_sends_186 rfl (Nat.le_of_ble_eq_true rfl) ⟨Nat.le_of_ble_eq_true rfl, Nat.le_of_ble_eq_true rfl⟩ ⟨Nat.zero_le _, Nat.zero_le _⟩ (fun H locs hP hD hS => ?_)
      exact B189 _ _ _ _ h _ _ _ hP hD hS (lv_sub hl [3, 2, 1, 0] rfl)
    · refine x_aload_n C dX6_sends_166 rfl hl 3 rfl ?_
      refine x_iload_n C dX6_sends_167 rfl hl 4 rfl ?_
      refine x_iconst (v := (4 : Int32)) C dX6_sends_168 (by decide) ?_
      obtain ⟨u104, hu104, h⟩ := ob_some h
      refine x_callV (As := [.int _, .int _]) (n := 2) C (kX6_fails l D cI cS aM _ _ _ hu104) (fun hh => nomatch hh) wm_X6_87 wi_X6_fails we_X6_fails wz_X6 wc_X6_fails (by decide +kernel) rfl hP hD hS hA 0 3 rfl rfl rfl hl.1 dX6_sends_169 rfl (Nat.le_of_ble_eq_true rfl) ⟨Nat.le_of_ble_eq_true rfl, Nat.le_of_ble_eq_true rfl⟩ ⟨Nat.zero_le _, Nat.zero_le _⟩ (fun H locs hP hD hS => ?_)
      exact RETh dX6_sends_172 h hP hD hS
