theorem dX1_endBackWork_0 : decode cX1_endBackWork 0 = .ok (.iconst 0, 1) := by decide +kernel
theorem dX1_endBackWork_1 : decode cX1_endBackWork 1 = .ok (.istore_n 1, 1) := by decide +kernel
theorem dX1_endBackWork_2 : decode cX1_endBackWork 2 = .ok (.iload_n 1, 1) := by decide +kernel
theorem dX1_endBackWork_3 : decode cX1_endBackWork 3 = .ok (.iconst 4, 1) := by decide +kernel
theorem dX1_endBackWork_4 : decode cX1_endBackWork 4 = .ok (.if_icmp .ge 53, 3) := by decide +kernel
theorem dX1_endBackWork_7 : decode cX1_endBackWork 7 = .ok (.aload_n 0, 1) := by decide +kernel
theorem dX1_endBackWork_8 : decode cX1_endBackWork 8 = .ok (.getfield 44, 3) := by decide +kernel
theorem dX1_endBackWork_11 : decode cX1_endBackWork 11 = .ok (.iload_n 1, 1) := by decide +kernel
theorem dX1_endBackWork_12 : decode cX1_endBackWork 12 = .ok (.iconst 0, 1) := by decide +kernel
theorem dX1_endBackWork_13 : decode cX1_endBackWork 13 = .ok (.invokevirtual 15, 3) := by decide +kernel
theorem dX1_endBackWork_16 : decode cX1_endBackWork 16 = .ok (.istore_n 2, 1) := by decide +kernel
theorem dX1_endBackWork_17 : decode cX1_endBackWork 17 = .ok (.iload_n 2, 1) := by decide +kernel
theorem dX1_endBackWork_18 : decode cX1_endBackWork 18 = .ok (.bipush (-9), 2) := by decide +kernel
theorem dX1_endBackWork_20 : decode cX1_endBackWork 20 = .ok (.if_icmp .eq 31, 3) := by decide +kernel
theorem dX1_endBackWork_23 : decode cX1_endBackWork 23 = .ok (.aload_n 0, 1) := by decide +kernel
theorem dX1_endBackWork_24 : decode cX1_endBackWork 24 = .ok (.getfield 59, 3) := by decide +kernel
theorem dX1_endBackWork_27 : decode cX1_endBackWork 27 = .ok (.iload_n 2, 1) := by decide +kernel
theorem dX1_endBackWork_28 : decode cX1_endBackWork 28 = .ok (.iconst 3, 1) := by decide +kernel
theorem dX1_endBackWork_29 : decode cX1_endBackWork 29 = .ok (.invokevirtual 15, 3) := by decide +kernel
theorem dX1_endBackWork_32 : decode cX1_endBackWork 32 = .ok (.ifCond .ne 19, 3) := by decide +kernel
theorem dX1_endBackWork_35 : decode cX1_endBackWork 35 = .ok (.aload_n 0, 1) := by decide +kernel
theorem dX1_endBackWork_36 : decode cX1_endBackWork 36 = .ok (.getfield 44, 3) := by decide +kernel
theorem dX1_endBackWork_39 : decode cX1_endBackWork 39 = .ok (.iload_n 1, 1) := by decide +kernel
theorem dX1_endBackWork_40 : decode cX1_endBackWork 40 = .ok (.iconst 0, 1) := by decide +kernel
theorem dX1_endBackWork_41 : decode cX1_endBackWork 41 = .ok (.bipush (-9), 2) := by decide +kernel
theorem dX1_endBackWork_43 : decode cX1_endBackWork 43 = .ok (.invokevirtual 28, 3) := by decide +kernel
theorem dX1_endBackWork_46 : decode cX1_endBackWork 46 = .ok (.aload_n 0, 1) := by decide +kernel
theorem dX1_endBackWork_47 : decode cX1_endBackWork 47 = .ok (.iload_n 2, 1) := by decide +kernel
theorem dX1_endBackWork_48 : decode cX1_endBackWork 48 = .ok (.invokestatic 107, 3) := by decide +kernel
theorem dX1_endBackWork_51 : decode cX1_endBackWork 51 = .ok (.iinc 1 1, 3) := by decide +kernel
theorem dX1_endBackWork_54 : decode cX1_endBackWork 54 = .ok (.goto (-52), 3) := by decide +kernel
theorem dX1_endBackWork_57 : decode cX1_endBackWork 57 = .ok (.return_, 1) := by decide +kernel
def bfX1_endBackWork_51  (K2 : Int32 × (StS) → Option (StS)) (x1 : Int32) (S : StS) : Option (StS) :=
  K2 ((x1 + (1 : Int32)), S)
def bfX1_endBackWork_2  (K2 : Int32 × (StS) → Option (StS)) (x : Int32 × (StS)) : Option (StS) :=
  match x with
  | (x1, S) => (if (4 : Int32) ≤ x1 then some S else nm ((sget 9 S x1 (0 : Int32))) fun v4 => (if v4 = (-9 : Int32) then bfX1_endBackWork_51  K2 x1 S else (if (sget 7 S v4 (3 : Int32)) = 0 then nm (sput 9 S x1 (0 : Int32) (-9 : Int32)) fun S5 => ob (fX1_answer v4 S5) fun u6 => bfX1_endBackWork_51  K2 x1 u6 else bfX1_endBackWork_51  K2 x1 S)))
def fX1_endBackWork  (S : StS) : Option (StS) :=
  iter (bfX1_endBackWork_2) FU ((0 : Int32), S)
set_option maxHeartbeats 4000000 in
set_option maxRecDepth 100000 in
theorem kX1_endBackWork (l : Launch) (D : va_G) (cI cS : ClassId) (aS : Nat → Nat)  (S : StS) {q : StS} (h : fX1_endBackWork  S = some q) : Mc l D (tyL cI cS) false yX1_endBackWork cX1_endBackWork 3 none 4 [.ref (aS 0)] (wS cI aS S) none (wS cI aS q) := by
  refine Mc_of RX1 (by decide +kernel) rfl wc_X1_endBackWork (Nat.le_of_ble_eq_true rfl) ?_
  intro p e s m args below meth c A Q ls C hA hz hP hD hS hl RET
  have RETh : ∀ {pc : Nat} {ls : Array Slot} {H : Heap} {locs : List Loc} {S1 : StS}, decode cX1_endBackWork pc = .ok (.return_, 1) → some S1 = some q → va_P D vwCl (wS cI aS S1) H → va_D A (wS cI aS S1) → va_S A s.heap H locs → W p l e (rmL 4) s m args below meth c H locs 0 0 Q (F0 m pc ls []) := by
    intro pc ls H locs S1 hd h hP hD hS; cases h; exact RET (x_vret C hd) hP hD hS
  have B51 : ∀ (K2 : Int32 × (StS) → Option (StS)) (ih2 : ∀ x, K2 x = some q → (match x with | (x1, S) => ∀ (H : Heap) (locs : List Loc) (ls : Array Slot), va_P D vwCl (wS cI aS S) H → va_D A (wS cI aS S) → va_S A s.heap H locs → lv_has ls 3 [(0, .ref (aS 0)), (1, .int x1)] → W p l e (rmL 4) s m args below meth c H locs 0 0 Q (F0 m 2 ls []))) (x1 : Int32) (S : StS), bfX1_endBackWork_51 K2 x1 S = some q → ∀ (H : Heap) (locs : List Loc) (ls : Array Slot), va_P D vwCl (wS cI aS S) H → va_D A (wS cI aS S) → va_S A s.heap H locs → lv_has ls 3 [(0, .ref (aS 0)), (1, .int x1)] → W p l e (rmL 4) s m args below meth c H locs 0 0 Q (F0 m 51 ls []) := by
    intro K2 ih2 x1 S h H locs ls hP hD hS hl
    refine x_iinc (v := (x1 + (1 : Int32))) (lv' := [(1, .int (x1 + (1 : Int32))), (0, .ref (aS 0))]) C dX1_endBackWork_51 hl (k := 1) rfl rfl (by decide) rfl (fun ls hl => ?_)
    refine x_goto (tgt := 2) C dX1_endBackWork_54 (by decide) ?_
    exact ih2 _ h _ _ _ hP hD hS (lv_sub hl [1, 0] rfl)
  have B2 : ∀ (n : Nat) (x : Int32 × (StS)), iter (bfX1_endBackWork_2) n x = some q → (match x with | (x1, S) => ∀ (H : Heap) (locs : List Loc) (ls : Array Slot), va_P D vwCl (wS cI aS S) H → va_D A (wS cI aS S) → va_S A s.heap H locs → lv_has ls 3 [(0, .ref (aS 0)), (1, .int x1)] → W p l e (rmL 4) s m args below meth c H locs 0 0 Q (F0 m 2 ls [])) := by
    refine iter_ind (fun x : Int32 × (StS) => (match x with | (x1, S) => ∀ (H : Heap) (locs : List Loc) (ls : Array Slot), va_P D vwCl (wS cI aS S) H → va_D A (wS cI aS S) → va_S A s.heap H locs → lv_has ls 3 [(0, .ref (aS 0)), (1, .int x1)] → W p l e (rmL 4) s m args below meth c H locs 0 0 Q (F0 m 2 ls []))) ?_
    intro K2 ih2 x h
    obtain ⟨x1, S⟩ := x
    intro H locs ls hP hD hS hl
    refine x_iload_n C dX1_endBackWork_2 rfl hl 1 rfl ?_
    refine x_iconst (v := (4 : Int32)) C dX1_endBackWork_3 (by decide) ?_
    refine x_icmp_ge (tgt := 57) C h dX1_endBackWork_4 (by decide) (fun h => ?_) (fun h => ?_)
    · exact RETh dX1_endBackWork_57 h hP hD hS
    · refine x_aload_n C dX1_endBackWork_7 rfl hl 0 rfl ?_
      refine x_get C inX2 hP 0 rfl rfl 9 (by decide) wf_X1_44 rfl dX1_endBackWork_8 ?_
      refine x_iload_n C dX1_endBackWork_11 rfl hl 1 rfl ?_
      refine x_iconst (v := (0 : Int32)) C dX1_endBackWork_12 (by decide) ?_
      refine x_callV (As := [.int _, .int _]) (n := 2) C (kS_get l D cI cS aS _ 9 (by decide) _ _) (fun hh => nomatch hh) wm_X1_15 wi_X3_get we_X3_get wz_X3 wc_X3_get (by decide +kernel) rfl hP hD hS hA 19 1 rfl rfl rfl hl.1 dX1_endBackWork_13 rfl (Nat.le_of_ble_eq_true rfl) ⟨Nat.le_of_ble_eq_true rfl, Nat.le_of_ble_eq_true rfl⟩ ⟨Nat.zero_le _, Nat.zero_le _⟩ (fun H locs hP hD hS => ?_)
      refine x_nmi h (fun v4 h => ?_)
      refine x_istore_n (lv' := [(2, .int v4), (0, .ref (aS 0)), (1, .int x1)]) C dX1_endBackWork_16 rfl hl (by decide) rfl (fun ls hl => ?_)
      refine x_iload_n C dX1_endBackWork_17 rfl hl 0 rfl ?_
      refine x_bipush (v := (-9 : Int32)) C dX1_endBackWork_18 (by decide) ?_
      refine x_icmp_eq (tgt := 51) C h dX1_endBackWork_20 (by decide) (fun h => ?_) (fun h => ?_)
      · exact B51 K2 ih2 _ _ h _ _ _ hP hD hS (lv_sub hl [1, 2] rfl)
      · refine x_aload_n C dX1_endBackWork_23 rfl hl 1 rfl ?_
        refine x_get C inX2 hP 0 rfl rfl 7 (by decide) wf_X1_59 rfl dX1_endBackWork_24 ?_
        refine x_iload_n C dX1_endBackWork_27 rfl hl 0 rfl ?_
        refine x_iconst (v := (3 : Int32)) C dX1_endBackWork_28 (by decide) ?_
        refine x_callV (As := [.int _, .int _]) (n := 2) C (kS_get l D cI cS aS _ 7 (by decide) _ _) (fun hh => nomatch hh) wm_X1_15 wi_X3_get we_X3_get wz_X3 wc_X3_get (by decide +kernel) rfl hP hD hS hA 15 1 rfl rfl rfl hl.1 dX1_endBackWork_29 rfl (Nat.le_of_ble_eq_true rfl) ⟨Nat.le_of_ble_eq_true rfl, Nat.le_of_ble_eq_true rfl⟩ ⟨Nat.zero_le _, Nat.zero_le _⟩ (fun H locs hP hD hS => ?_)
        refine x_if_ne (tgt := 51) C h dX1_endBackWork_32 (by decide) (fun h => ?_) (fun h => ?_)
        · exact B51 K2 ih2 _ _ h _ _ _ hP hD hS (lv_sub hl [1, 2] rfl)
        · refine x_aload_n C dX1_endBackWork_35 rfl hl 1 rfl ?_
          refine x_get C inX2 hP 0 rfl rfl 9 (by decide) wf_X1_44 rfl dX1_endBackWork_36 ?_
          refine x_iload_n C dX1_endBackWork_39 rfl hl 2 rfl ?_
          refine x_iconst (v := (0 : Int32)) C dX1_endBackWork_40 (by decide) ?_
          refine x_bipush (v := (-9 : Int32)) C dX1_endBackWork_41 (by decide) ?_
          refine x_callV (As := [.int _, .int _, .int _]) (n := 3) C (kS_put l D cI cS aS _ 9 (by decide) _ _ _) (fun hh => nomatch hh) wm_X1_28 wi_X3_put we_X3_put wz_X3 wc_X3_put (by decide +kernel) rfl hP hD hS hA 19 1 rfl rfl rfl hl.1 dX1_endBackWork_43 rfl (Nat.le_of_ble_eq_true rfl) ⟨Nat.le_of_ble_eq_true rfl, Nat.le_of_ble_eq_true rfl⟩ ⟨Nat.zero_le _, Nat.zero_le _⟩ (fun H locs hP hD hS => ?_)
          refine x_nmS (wS cI aS) h hP hD (fun S5 h hP hD => ?_)
          refine x_aload_n C dX1_endBackWork_46 rfl hl 1 rfl ?_
          refine x_iload_n C dX1_endBackWork_47 rfl hl 0 rfl ?_
          obtain ⟨u6, hu6, h⟩ := ob_some h
          refine x_callS (As := [.ref _, .int _]) (n := 2) C (kX1_answer l D cI cS aS _ _ hu6) (fun hh => nomatch hh) wm_X1_107 wt_X1_answer wz_X1 wc_X1_answer (by decide +kernel) rfl hP hD hS hA hl.1 dX1_endBackWork_48 rfl (Nat.le_of_ble_eq_true rfl) ⟨Nat.le_of_ble_eq_true rfl, Nat.le_of_ble_eq_true rfl⟩ ⟨Nat.zero_le _, Nat.zero_le _⟩ (fun H locs hP hD hS => ?_)
          exact B51 K2 ih2 _ _ h _ _ _ hP hD hS (lv_sub hl [1, 2] rfl)
  refine x_iconst (v := (0 : Int32)) C dX1_endBackWork_0 (by decide) ?_
  refine x_istore_n (lv' := [(1, .int (0 : Int32)), (0, .ref (aS 0))]) C dX1_endBackWork_1 rfl hl (by decide) rfl (fun ls hl => ?_)
  exact B2 FU _ h _ _ _ hP hD hS (lv_sub hl [1, 0] rfl)
theorem dX1_endFrontWork_0 : decode cX1_endFrontWork 0 = .ok (.iconst 0, 1) := by decide +kernel
theorem dX1_endFrontWork_1 : decode cX1_endFrontWork 1 = .ok (.istore_n 1, 1) := by decide +kernel
theorem dX1_endFrontWork_2 : decode cX1_endFrontWork 2 = .ok (.iload_n 1, 1) := by decide +kernel
theorem dX1_endFrontWork_3 : decode cX1_endFrontWork 3 = .ok (.iconst 4, 1) := by decide +kernel
theorem dX1_endFrontWork_4 : decode cX1_endFrontWork 4 = .ok (.if_icmp .ge 88, 3) := by decide +kernel
theorem dX1_endFrontWork_7 : decode cX1_endFrontWork 7 = .ok (.aload_n 0, 1) := by decide +kernel
theorem dX1_endFrontWork_8 : decode cX1_endFrontWork 8 = .ok (.getfield 59, 3) := by decide +kernel
theorem dX1_endFrontWork_11 : decode cX1_endFrontWork 11 = .ok (.iload_n 1, 1) := by decide +kernel
theorem dX1_endFrontWork_12 : decode cX1_endFrontWork 12 = .ok (.iconst 0, 1) := by decide +kernel
theorem dX1_endFrontWork_13 : decode cX1_endFrontWork 13 = .ok (.invokevirtual 15, 3) := by decide +kernel
theorem dX1_endFrontWork_16 : decode cX1_endFrontWork 16 = .ok (.bipush (-9), 2) := by decide +kernel
theorem dX1_endFrontWork_18 : decode cX1_endFrontWork 18 = .ok (.if_icmp .eq 20, 3) := by decide +kernel
theorem dX1_endFrontWork_21 : decode cX1_endFrontWork 21 = .ok (.aload_n 0, 1) := by decide +kernel
theorem dX1_endFrontWork_22 : decode cX1_endFrontWork 22 = .ok (.getfield 59, 3) := by decide +kernel
theorem dX1_endFrontWork_25 : decode cX1_endFrontWork 25 = .ok (.iload_n 1, 1) := by decide +kernel
theorem dX1_endFrontWork_26 : decode cX1_endFrontWork 26 = .ok (.iconst 5, 1) := by decide +kernel
theorem dX1_endFrontWork_27 : decode cX1_endFrontWork 27 = .ok (.invokevirtual 15, 3) := by decide +kernel
theorem dX1_endFrontWork_30 : decode cX1_endFrontWork 30 = .ok (.iconst 2, 1) := by decide +kernel
theorem dX1_endFrontWork_31 : decode cX1_endFrontWork 31 = .ok (.if_icmp .ne 7, 3) := by decide +kernel
theorem dX1_endFrontWork_34 : decode cX1_endFrontWork 34 = .ok (.iconst 1, 1) := by decide +kernel
theorem dX1_endFrontWork_35 : decode cX1_endFrontWork 35 = .ok (.goto 4, 3) := by decide +kernel
theorem dX1_endFrontWork_38 : decode cX1_endFrontWork 38 = .ok (.iconst 0, 1) := by decide +kernel
theorem dX1_endFrontWork_39 : decode cX1_endFrontWork 39 = .ok (.istore_n 2, 1) := by decide +kernel
theorem dX1_endFrontWork_40 : decode cX1_endFrontWork 40 = .ok (.iload_n 2, 1) := by decide +kernel
theorem dX1_endFrontWork_41 : decode cX1_endFrontWork 41 = .ok (.ifCond .eq 45, 3) := by decide +kernel
theorem dX1_endFrontWork_44 : decode cX1_endFrontWork 44 = .ok (.aload_n 0, 1) := by decide +kernel
theorem dX1_endFrontWork_45 : decode cX1_endFrontWork 45 = .ok (.getfield 59, 3) := by decide +kernel
theorem dX1_endFrontWork_48 : decode cX1_endFrontWork 48 = .ok (.iload_n 1, 1) := by decide +kernel
theorem dX1_endFrontWork_49 : decode cX1_endFrontWork 49 = .ok (.iconst 2, 1) := by decide +kernel
theorem dX1_endFrontWork_50 : decode cX1_endFrontWork 50 = .ok (.invokevirtual 15, 3) := by decide +kernel
theorem dX1_endFrontWork_53 : decode cX1_endFrontWork 53 = .ok (.ifCond .ne 33, 3) := by decide +kernel
theorem dX1_endFrontWork_56 : decode cX1_endFrontWork 56 = .ok (.aload_n 0, 1) := by decide +kernel
theorem dX1_endFrontWork_57 : decode cX1_endFrontWork 57 = .ok (.getfield 59, 3) := by decide +kernel
theorem dX1_endFrontWork_60 : decode cX1_endFrontWork 60 = .ok (.iload_n 1, 1) := by decide +kernel
theorem dX1_endFrontWork_61 : decode cX1_endFrontWork 61 = .ok (.iconst 3, 1) := by decide +kernel
theorem dX1_endFrontWork_62 : decode cX1_endFrontWork 62 = .ok (.invokevirtual 15, 3) := by decide +kernel
theorem dX1_endFrontWork_65 : decode cX1_endFrontWork 65 = .ok (.ifCond .ne 11, 3) := by decide +kernel
theorem dX1_endFrontWork_68 : decode cX1_endFrontWork 68 = .ok (.aload_n 0, 1) := by decide +kernel
theorem dX1_endFrontWork_69 : decode cX1_endFrontWork 69 = .ok (.iload_n 1, 1) := by decide +kernel
theorem dX1_endFrontWork_70 : decode cX1_endFrontWork 70 = .ok (.invokestatic 107, 3) := by decide +kernel
theorem dX1_endFrontWork_73 : decode cX1_endFrontWork 73 = .ok (.goto 13, 3) := by decide +kernel
theorem dX1_endFrontWork_76 : decode cX1_endFrontWork 76 = .ok (.aload_n 0, 1) := by decide +kernel
theorem dX1_endFrontWork_77 : decode cX1_endFrontWork 77 = .ok (.aload_n 0, 1) := by decide +kernel
theorem dX1_endFrontWork_78 : decode cX1_endFrontWork 78 = .ok (.iload_n 1, 1) := by decide +kernel
theorem dX1_endFrontWork_79 : decode cX1_endFrontWork 79 = .ok (.invokestatic 111, 3) := by decide +kernel
theorem dX1_endFrontWork_82 : decode cX1_endFrontWork 82 = .ok (.iconst 4, 1) := by decide +kernel
theorem dX1_endFrontWork_83 : decode cX1_endFrontWork 83 = .ok (.invokestatic 53, 3) := by decide +kernel
theorem dX1_endFrontWork_86 : decode cX1_endFrontWork 86 = .ok (.iinc 1 1, 3) := by decide +kernel
theorem dX1_endFrontWork_89 : decode cX1_endFrontWork 89 = .ok (.goto (-87), 3) := by decide +kernel
theorem dX1_endFrontWork_92 : decode cX1_endFrontWork 92 = .ok (.return_, 1) := by decide +kernel
def bfX1_endFrontWork_86  (K2 : Int32 × (StS) → Option (StS)) (x1 : Int32) (S : StS) : Option (StS) :=
  K2 ((x1 + (1 : Int32)), S)
def bfX1_endFrontWork_39  (K2 : Int32 × (StS) → Option (StS)) (x1 : Int32) (s0 : Int32) (S : StS) : Option (StS) :=
  (if s0 = 0 then bfX1_endFrontWork_86  K2 x1 S else (if (sget 7 S x1 (2 : Int32)) = 0 then (if (sget 7 S x1 (3 : Int32)) = 0 then ob (fX1_answer x1 S) fun u6 => bfX1_endFrontWork_86  K2 x1 u6 else ob (fX1_callBack x1 S) fun u4 => ob (fX0_fail u4.1 (4 : Int32) u4.2) fun u5 => bfX1_endFrontWork_86  K2 x1 u5) else bfX1_endFrontWork_86  K2 x1 S))
def bfX1_endFrontWork_38  (K2 : Int32 × (StS) → Option (StS)) (x1 : Int32) (S : StS) : Option (StS) :=
  bfX1_endFrontWork_39  K2 x1 ((0 : Int32)) S
def bfX1_endFrontWork_2  (K2 : Int32 × (StS) → Option (StS)) (x : Int32 × (StS)) : Option (StS) :=
  match x with
  | (x1, S) => (if (4 : Int32) ≤ x1 then some S else (if (sget 7 S x1 (0 : Int32)) = (-9 : Int32) then bfX1_endFrontWork_38  K2 x1 S else (if (sget 7 S x1 (5 : Int32)) = (2 : Int32) then bfX1_endFrontWork_39  K2 x1 ((1 : Int32)) S else bfX1_endFrontWork_38  K2 x1 S)))
def fX1_endFrontWork  (S : StS) : Option (StS) :=
  iter (bfX1_endFrontWork_2) FU ((0 : Int32), S)
set_option maxHeartbeats 4000000 in
set_option maxRecDepth 100000 in
theorem kX1_endFrontWork (l : Launch) (D : va_G) (cI cS : ClassId) (aS : Nat → Nat)  (S : StS) {q : StS} (h : fX1_endFrontWork  S = some q) : Mc l D (tyL cI cS) false yX1_endFrontWork cX1_endFrontWork 3 none 5 [.ref (aS 0)] (wS cI aS S) none (wS cI aS q) := by
  refine Mc_of RX1 (by decide +kernel) rfl wc_X1_endFrontWork (Nat.le_of_ble_eq_true rfl) ?_
  intro p e s m args below meth c A Q ls C hA hz hP hD hS hl RET
  have RETh : ∀ {pc : Nat} {ls : Array Slot} {H : Heap} {locs : List Loc} {S1 : StS}, decode cX1_endFrontWork pc = .ok (.return_, 1) → some S1 = some q → va_P D vwCl (wS cI aS S1) H → va_D A (wS cI aS S1) → va_S A s.heap H locs → W p l e (rmL 5) s m args below meth c H locs 0 0 Q (F0 m pc ls []) := by
    intro pc ls H locs S1 hd h hP hD hS; cases h; exact RET (x_vret C hd) hP hD hS
  have B86 : ∀ (K2 : Int32 × (StS) → Option (StS)) (ih2 : ∀ x, K2 x = some q → (match x with | (x1, S) => ∀ (H : Heap) (locs : List Loc) (ls : Array Slot), va_P D vwCl (wS cI aS S) H → va_D A (wS cI aS S) → va_S A s.heap H locs → lv_has ls 3 [(0, .ref (aS 0)), (1, .int x1)] → W p l e (rmL 5) s m args below meth c H locs 0 0 Q (F0 m 2 ls []))) (x1 : Int32) (S : StS), bfX1_endFrontWork_86 K2 x1 S = some q → ∀ (H : Heap) (locs : List Loc) (ls : Array Slot), va_P D vwCl (wS cI aS S) H → va_D A (wS cI aS S) → va_S A s.heap H locs → lv_has ls 3 [(0, .ref (aS 0)), (1, .int x1)] → W p l e (rmL 5) s m args below meth c H locs 0 0 Q (F0 m 86 ls []) := by
    intro K2 ih2 x1 S h H locs ls hP hD hS hl
    refine x_iinc (v := (x1 + (1 : Int32))) (lv' := [(1, .int (x1 + (1 : Int32))), (0, .ref (aS 0))]) C dX1_endFrontWork_86 hl (k := 1) rfl rfl (by decide) rfl (fun ls hl => ?_)
    refine x_goto (tgt := 2) C dX1_endFrontWork_89 (by decide) ?_
    exact ih2 _ h _ _ _ hP hD hS (lv_sub hl [1, 0] rfl)
  have B39 : ∀ (K2 : Int32 × (StS) → Option (StS)) (ih2 : ∀ x, K2 x = some q → (match x with | (x1, S) => ∀ (H : Heap) (locs : List Loc) (ls : Array Slot), va_P D vwCl (wS cI aS S) H → va_D A (wS cI aS S) → va_S A s.heap H locs → lv_has ls 3 [(0, .ref (aS 0)), (1, .int x1)] → W p l e (rmL 5) s m args below meth c H locs 0 0 Q (F0 m 2 ls []))) (x1 : Int32) (s0 : Int32) (S : StS), bfX1_endFrontWork_39 K2 x1 s0 S = some q → ∀ (H : Heap) (locs : List Loc) (ls : Array Slot), va_P D vwCl (wS cI aS S) H → va_D A (wS cI aS S) → va_S A s.heap H locs → lv_has ls 3 [(0, .ref (aS 0)), (1, .int x1)] → W p l e (rmL 5) s m args below meth c H locs 0 0 Q (F0 m 39 ls [.int s0]) := by
    intro K2 ih2 x1 s0 S h H locs ls hP hD hS hl
    refine x_istore_n (lv' := [(2, .int s0), (0, .ref (aS 0)), (1, .int x1)]) C dX1_endFrontWork_39 rfl hl (by decide) rfl (fun ls hl => ?_)
    refine x_iload_n C dX1_endFrontWork_40 rfl hl 0 rfl ?_
    refine x_if_eq (tgt := 86) C h dX1_endFrontWork_41 (by decide) (fun h => ?_) (fun h => ?_)
    · exact B86 K2 ih2 _ _ h _ _ _ hP hD hS (lv_sub hl [1, 2] rfl)
    · refine x_aload_n C dX1_endFrontWork_44 rfl hl 1 rfl ?_
      refine x_get C inX2 hP 0 rfl rfl 7 (by decide) wf_X1_59 rfl dX1_endFrontWork_45 ?_
      refine x_iload_n C dX1_endFrontWork_48 rfl hl 2 rfl ?_
      refine x_iconst (v := (2 : Int32)) C dX1_endFrontWork_49 (by decide) ?_
      refine x_callV (As := [.int _, .int _]) (n := 2) C (kS_get l D cI cS aS _ 7 (by decide) _ _) (fun hh => nomatch hh) wm_X1_15 wi_X3_get we_X3_get wz_X3 wc_X3_get (by decide +kernel) rfl hP hD hS hA 15 1 rfl rfl rfl hl.1 dX1_endFrontWork_50 rfl (Nat.le_of_ble_eq_true rfl) ⟨Nat.le_of_ble_eq_true rfl, Nat.le_of_ble_eq_true rfl⟩ ⟨Nat.zero_le _, Nat.zero_le _⟩ (fun H locs hP hD hS => ?_)
      refine x_if_ne (tgt := 86) C h dX1_endFrontWork_53 (by decide) (fun h => ?_) (fun h => ?_)
      · exact B86 K2 ih2 _ _ h _ _ _ hP hD hS (lv_sub hl [1, 2] rfl)
      · refine x_aload_n C dX1_endFrontWork_56 rfl hl 1 rfl ?_
        refine x_get C inX2 hP 0 rfl rfl 7 (by decide) wf_X1_59 rfl dX1_endFrontWork_57 ?_
        refine x_iload_n C dX1_endFrontWork_60 rfl hl 2 rfl ?_
        refine x_iconst (v := (3 : Int32)) C dX1_endFrontWork_61 (by decide) ?_
        refine x_callV (As := [.int _, .int _]) (n := 2) C (kS_get l D cI cS aS _ 7 (by decide) _ _) (fun hh => nomatch hh) wm_X1_15 wi_X3_get we_X3_get wz_X3 wc_X3_get (by decide +kernel) rfl hP hD hS hA 15 1 rfl rfl rfl hl.1 dX1_endFrontWork_62 rfl (Nat.le_of_ble_eq_true rfl) ⟨Nat.le_of_ble_eq_true rfl, Nat.le_of_ble_eq_true rfl⟩ ⟨Nat.zero_le _, Nat.zero_le _⟩ (fun H locs hP hD hS => ?_)
        refine x_if_ne (tgt := 76) C h dX1_endFrontWork_65 (by decide) (fun h => ?_) (fun h => ?_)
        · refine x_aload_n C dX1_endFrontWork_76 rfl hl 1 rfl ?_
          refine x_aload_n C dX1_endFrontWork_77 rfl hl 1 rfl ?_
          refine x_iload_n C dX1_endFrontWork_78 rfl hl 2 rfl ?_
          obtain ⟨u4, hu4, h⟩ := ob_some h
          refine x_callS (As := [.ref _, .int _]) (n := 2) C (kX1_callBack l D cI cS aS _ _ hu4) (fun hh => nomatch hh) wm_X1_111 wt_X1_callBack wz_X1 wc_X1_callBack (by decide +kernel) rfl hP hD hS hA hl.1 dX1_endFrontWork_79 rfl (Nat.le_of_ble_eq_true rfl) ⟨Nat.le_of_ble_eq_true rfl, Nat.le_of_ble_eq_true rfl⟩ ⟨Nat.zero_le _, Nat.zero_le _⟩ (fun H locs hP hD hS => ?_)
          refine x_iconst (v := (4 : Int32)) C dX1_endFrontWork_82 (by decide) ?_
          obtain ⟨u5, hu5, h⟩ := ob_some h
          refine x_callS (As := [.ref _, .int _, .int _]) (n := 3) C (kX0_fail l D cI cS aS _ _ _ hu5) (fun hh => nomatch hh) wm_X1_53 wt_X0_fail wz_X0 wc_X0_fail (by decide +kernel) rfl hP hD hS hA hl.1 dX1_endFrontWork_83 rfl (Nat.le_of_ble_eq_true rfl) ⟨Nat.le_of_ble_eq_true rfl, Nat.le_of_ble_eq_true rfl⟩ ⟨Nat.zero_le _, Nat.zero_le _⟩ (fun H locs hP hD hS => ?_)
          exact B86 K2 ih2 _ _ h _ _ _ hP hD hS (lv_sub hl [1, 2] rfl)
        · refine x_aload_n C dX1_endFrontWork_68 rfl hl 1 rfl ?_
          refine x_iload_n C dX1_endFrontWork_69 rfl hl 2 rfl ?_
          obtain ⟨u6, hu6, h⟩ := ob_some h
          refine x_callS (As := [.ref _, .int _]) (n := 2) C (kX1_answer l D cI cS aS _ _ hu6) (fun hh => nomatch hh) wm_X1_107 wt_X1_answer wz_X1 wc_X1_answer (by decide +kernel) rfl hP hD hS hA hl.1 dX1_endFrontWork_70 rfl (Nat.le_of_ble_eq_true rfl) ⟨Nat.le_of_ble_eq_true rfl, Nat.le_of_ble_eq_true rfl⟩ ⟨Nat.zero_le _, Nat.zero_le _⟩ (fun H locs hP hD hS => ?_)
          refine x_goto (tgt := 86) C dX1_endFrontWork_73 (by decide) ?_
          exact B86 K2 ih2 _ _ h _ _ _ hP hD hS (lv_sub hl [1, 2] rfl)
  have B38 : ∀ (K2 : Int32 × (StS) → Option (StS)) (ih2 : ∀ x, K2 x = some q → (match x with | (x1, S) => ∀ (H : Heap) (locs : List Loc) (ls : Array Slot), va_P D vwCl (wS cI aS S) H → va_D A (wS cI aS S) → va_S A s.heap H locs → lv_has ls 3 [(0, .ref (aS 0)), (1, .int x1)] → W p l e (rmL 5) s m args below meth c H locs 0 0 Q (F0 m 2 ls []))) (x1 : Int32) (S : StS), bfX1_endFrontWork_38 K2 x1 S = some q → ∀ (H : Heap) (locs : List Loc) (ls : Array Slot), va_P D vwCl (wS cI aS S) H → va_D A (wS cI aS S) → va_S A s.heap H locs → lv_has ls 3 [(0, .ref (aS 0)), (1, .int x1)] → W p l e (rmL 5) s m args below meth c H locs 0 0 Q (F0 m 38 ls []) := by
    intro K2 ih2 x1 S h H locs ls hP hD hS hl
    refine x_iconst (v := (0 : Int32)) C dX1_endFrontWork_38 (by decide) ?_
    exact B39 K2 ih2 _ _ _ h _ _ _ hP hD hS hl
  have B2 : ∀ (n : Nat) (x : Int32 × (StS)), iter (bfX1_endFrontWork_2) n x = some q → (match x with | (x1, S) => ∀ (H : Heap) (locs : List Loc) (ls : Array Slot), va_P D vwCl (wS cI aS S) H → va_D A (wS cI aS S) → va_S A s.heap H locs → lv_has ls 3 [(0, .ref (aS 0)), (1, .int x1)] → W p l e (rmL 5) s m args below meth c H locs 0 0 Q (F0 m 2 ls [])) := by
    refine iter_ind (fun x : Int32 × (StS) => (match x with | (x1, S) => ∀ (H : Heap) (locs : List Loc) (ls : Array Slot), va_P D vwCl (wS cI aS S) H → va_D A (wS cI aS S) → va_S A s.heap H locs → lv_has ls 3 [(0, .ref (aS 0)), (1, .int x1)] → W p l e (rmL 5) s m args below meth c H locs 0 0 Q (F0 m 2 ls []))) ?_
    intro K2 ih2 x h
    obtain ⟨x1, S⟩ := x
    intro H locs ls hP hD hS hl
    refine x_iload_n C dX1_endFrontWork_2 rfl hl 1 rfl ?_
    refine x_iconst (v := (4 : Int32)) C dX1_endFrontWork_3 (by decide) ?_
    refine x_icmp_ge (tgt := 92) C h dX1_endFrontWork_4 (by decide) (fun h => ?_) (fun h => ?_)
    · exact RETh dX1_endFrontWork_92 h hP hD hS
    · refine x_aload_n C dX1_endFrontWork_7 rfl hl 0 rfl ?_
      refine x_get C inX2 hP 0 rfl rfl 7 (by decide) wf_X1_59 rfl dX1_endFrontWork_8 ?_
      refine x_iload_n C dX1_endFrontWork_11 rfl hl 1 rfl ?_
      refine x_iconst (v := (0 : Int32)) C dX1_endFrontWork_12 (by decide) ?_
      refine x_callV (As := [.int _, .int _]) (n := 2) C (kS_get l D cI cS aS _ 7 (by decide) _ _) (fun hh => nomatch hh) wm_X1_15 wi_X3_get we_X3_get wz_X3 wc_X3_get (by decide +kernel) rfl hP hD hS hA 15 1 rfl rfl rfl hl.1 dX1_endFrontWork_13 rfl (Nat.le_of_ble_eq_true rfl) ⟨Nat.le_of_ble_eq_true rfl, Nat.le_of_ble_eq_true rfl⟩ ⟨Nat.zero_le _, Nat.zero_le _⟩ (fun H locs hP hD hS => ?_)
      refine x_bipush (v := (-9 : Int32)) C dX1_endFrontWork_16 (by decide) ?_
      refine x_icmp_eq (tgt := 38) C h dX1_endFrontWork_18 (by decide) (fun h => ?_) (fun h => ?_)
      · exact B38 K2 ih2 _ _ h _ _ _ hP hD hS hl
      · refine x_aload_n C dX1_endFrontWork_21 rfl hl 0 rfl ?_
        refine x_get C inX2 hP 0 rfl rfl 7 (by decide) wf_X1_59 rfl dX1_endFrontWork_22 ?_
        refine x_iload_n C dX1_endFrontWork_25 rfl hl 1 rfl ?_
        refine x_iconst (v := (5 : Int32)) C dX1_endFrontWork_26 (by decide) ?_
        refine x_callV (As := [.int _, .int _]) (n := 2) C (kS_get l D cI cS aS _ 7 (by decide) _ _) (fun hh => nomatch hh) wm_X1_15 wi_X3_get we_X3_get wz_X3 wc_X3_get (by decide +kernel) rfl hP hD hS hA 15 1 rfl rfl rfl hl.1 dX1_endFrontWork_27 rfl (Nat.le_of_ble_eq_true rfl) ⟨Nat.le_of_ble_eq_true rfl, Nat.le_of_ble_eq_true rfl⟩ ⟨Nat.zero_le _, Nat.zero_le _⟩ (fun H locs hP hD hS => ?_)
        refine x_iconst (v := (2 : Int32)) C dX1_endFrontWork_30 (by decide) ?_
        refine x_icmp_ne (tgt := 38) C h dX1_endFrontWork_31 (by decide) (fun h => ?_) (fun h => ?_)
        · exact B38 K2 ih2 _ _ h _ _ _ hP hD hS hl
        · refine x_iconst (v := (1 : Int32)) C dX1_endFrontWork_34 (by decide) ?_
          refine x_goto (tgt := 39) C dX1_endFrontWork_35 (by decide) ?_
          exact B39 K2 ih2 _ _ _ h _ _ _ hP hD hS hl
  refine x_iconst (v := (0 : Int32)) C dX1_endFrontWork_0 (by decide) ?_
  refine x_istore_n (lv' := [(1, .int (0 : Int32)), (0, .ref (aS 0))]) C dX1_endFrontWork_1 rfl hl (by decide) rfl (fun ls hl => ?_)
  exact B2 FU _ h _ _ _ hP hD hS (lv_sub hl [1, 0] rfl)
theorem dX1_isHopeless_0 : decode cX1_isHopeless 0 = .ok (.iconst 0, 1) := by decide +kernel
theorem dX1_isHopeless_1 : decode cX1_isHopeless 1 = .ok (.aload_n 1, 1) := by decide +kernel
theorem dX1_isHopeless_2 : decode cX1_isHopeless 2 = .ok (.iload_n 2, 1) := by decide +kernel
theorem dX1_isHopeless_3 : decode cX1_isHopeless 3 = .ok (.iconst 1, 1) := by decide +kernel
theorem dX1_isHopeless_4 : decode cX1_isHopeless 4 = .ok (.invokevirtual 15, 3) := by decide +kernel
theorem dX1_isHopeless_7 : decode cX1_isHopeless 7 = .ok (.aload_n 0, 1) := by decide +kernel
theorem dX1_isHopeless_8 : decode cX1_isHopeless 8 = .ok (.getfield 93, 3) := by decide +kernel
theorem dX1_isHopeless_11 : decode cX1_isHopeless 11 = .ok (.isub, 1) := by decide +kernel
theorem dX1_isHopeless_12 : decode cX1_isHopeless 12 = .ok (.invokestatic 96, 3) := by decide +kernel
theorem dX1_isHopeless_15 : decode cX1_isHopeless 15 = .ok (.istore_n 3, 1) := by decide +kernel
theorem dX1_isHopeless_16 : decode cX1_isHopeless 16 = .ok (.aload_n 1, 1) := by decide +kernel
theorem dX1_isHopeless_17 : decode cX1_isHopeless 17 = .ok (.iload_n 2, 1) := by decide +kernel
theorem dX1_isHopeless_18 : decode cX1_isHopeless 18 = .ok (.iconst 2, 1) := by decide +kernel
theorem dX1_isHopeless_19 : decode cX1_isHopeless 19 = .ok (.invokevirtual 15, 3) := by decide +kernel
theorem dX1_isHopeless_22 : decode cX1_isHopeless 22 = .ok (.aload_n 1, 1) := by decide +kernel
theorem dX1_isHopeless_23 : decode cX1_isHopeless 23 = .ok (.iload_n 2, 1) := by decide +kernel
theorem dX1_isHopeless_24 : decode cX1_isHopeless 24 = .ok (.iconst 3, 1) := by decide +kernel
theorem dX1_isHopeless_25 : decode cX1_isHopeless 25 = .ok (.invokevirtual 15, 3) := by decide +kernel
theorem dX1_isHopeless_28 : decode cX1_isHopeless 28 = .ok (.iadd, 1) := by decide +kernel
theorem dX1_isHopeless_29 : decode cX1_isHopeless 29 = .ok (.istore 4, 2) := by decide +kernel
theorem dX1_isHopeless_31 : decode cX1_isHopeless 31 = .ok (.aload_n 0, 1) := by decide +kernel
theorem dX1_isHopeless_32 : decode cX1_isHopeless 32 = .ok (.getfield 101, 3) := by decide +kernel
theorem dX1_isHopeless_35 : decode cX1_isHopeless 35 = .ok (.iconst 1, 1) := by decide +kernel
theorem dX1_isHopeless_36 : decode cX1_isHopeless 36 = .ok (.iconst 0, 1) := by decide +kernel
theorem dX1_isHopeless_37 : decode cX1_isHopeless 37 = .ok (.invokevirtual 15, 3) := by decide +kernel
theorem dX1_isHopeless_40 : decode cX1_isHopeless 40 = .ok (.iconst 1, 1) := by decide +kernel
theorem dX1_isHopeless_41 : decode cX1_isHopeless 41 = .ok (.if_icmp .ne 13, 3) := by decide +kernel
theorem dX1_isHopeless_44 : decode cX1_isHopeless 44 = .ok (.iload_n 3, 1) := by decide +kernel
theorem dX1_isHopeless_45 : decode cX1_isHopeless 45 = .ok (.iload 4, 2) := by decide +kernel
theorem dX1_isHopeless_47 : decode cX1_isHopeless 47 = .ok (.if_icmp .ge 7, 3) := by decide +kernel
theorem dX1_isHopeless_50 : decode cX1_isHopeless 50 = .ok (.iconst 1, 1) := by decide +kernel
theorem dX1_isHopeless_51 : decode cX1_isHopeless 51 = .ok (.goto 4, 3) := by decide +kernel
theorem dX1_isHopeless_54 : decode cX1_isHopeless 54 = .ok (.iconst 0, 1) := by decide +kernel
theorem dX1_isHopeless_55 : decode cX1_isHopeless 55 = .ok (.ireturn, 1) := by decide +kernel
def bfX1_isHopeless_6_55 (p3 : Int32) (S : StS) (s0 : Int32) : Option (Int32) :=
  (if s0 = 0 ∨ s0 = 1 then some s0 else none)
def bfX1_isHopeless_6_54 (p3 : Int32) (S : StS) : Option (Int32) :=
  bfX1_isHopeless_6_55 p3 S  ((0 : Int32))
def fX1_isHopeless_6 (p3 : Int32) (S : StS) : Option (Int32) :=
  nm ((if (0 : Int32) < ((sget 6 S p3 (1 : Int32)) - (S.2 12)) then ((sget 6 S p3 (1 : Int32)) - (S.2 12)) else (0 : Int32))) fun v3 => nm (((sget 6 S p3 (2 : Int32)) + (sget 6 S p3 (3 : Int32)))) fun v4 => (if (sget 4 S (1 : Int32) (0 : Int32)) = (1 : Int32) then (if v4 ≤ v3 then bfX1_isHopeless_6_54 p3 S else bfX1_isHopeless_6_55 p3 S  ((1 : Int32))) else bfX1_isHopeless_6_54 p3 S)
set_option maxHeartbeats 4000000 in
set_option maxRecDepth 100000 in
theorem kX1_isHopeless_6 (l : Launch) (D : va_G) (cI cS : ClassId) (aS : Nat → Nat) (p3 : Int32) (S : StS) {q : Int32} (h : fX1_isHopeless_6 p3 S = some q) : Mc l D (tyL cI cS) false yX1_isHopeless cX1_isHopeless 5 (some .boolean) 2 [.ref (aS 0), .ref (aS 13), .int p3] (wS cI aS S) (some (.int q)) (wS cI aS S) := by
  refine Mc_of RX1 (by decide +kernel) rfl wc_X1_isHopeless (Nat.le_of_ble_eq_true rfl) ?_
  intro p e s m args below meth c A Q ls C hA hz hP hD hS hl RET
  have RETh : ∀ {pc : Nat} {ls : Array Slot} {H : Heap} {locs : List Loc} {x : Int32} , (x = 0 ∨ x = 1) → decode cX1_isHopeless pc = .ok (.ireturn, 1) → some x = some q → va_P D vwCl (wS cI aS S) H → va_D A (wS cI aS S) → va_S A s.heap H locs → W p l e (rmL 2) s m args below meth c H locs 0 0 Q (F0 m pc ls [.int x]) := by
    intro pc ls H locs x hx hd h hP hD hS; cases h; exact RET (x_zret C hx hd) hP hD hS
  have B55 : ∀ (s0 : Int32), bfX1_isHopeless_6_55 p3 S s0 = some q → ∀ (H : Heap) (locs : List Loc) (ls : Array Slot), va_P D vwCl (wS cI aS S) H → va_D A (wS cI aS S) → va_S A s.heap H locs → lv_has ls 5 [] → W p l e (rmL 2) s m args below meth c H locs 0 0 Q (F0 m 55 ls [.int s0]) := by
    intro s0 h H locs ls hP hD hS hl
    rcases x_ifn h with ⟨hc, h⟩
    exact RETh hc dX1_isHopeless_55 h hP hD hS
  have B54 : bfX1_isHopeless_6_54 p3 S = some q → ∀ (H : Heap) (locs : List Loc) (ls : Array Slot), va_P D vwCl (wS cI aS S) H → va_D A (wS cI aS S) → va_S A s.heap H locs → lv_has ls 5 [] → W p l e (rmL 2) s m args below meth c H locs 0 0 Q (F0 m 54 ls []) := by
    intro  h H locs ls hP hD hS hl
    refine x_iconst (v := (0 : Int32)) C dX1_isHopeless_54 (by decide) ?_
    exact B55 _ h _ _ _ hP hD hS hl
  refine x_iconst (v := (0 : Int32)) C dX1_isHopeless_0 (by decide) ?_
  refine x_aload_n C dX1_isHopeless_1 rfl hl 1 rfl ?_
  refine x_iload_n C dX1_isHopeless_2 rfl hl 2 rfl ?_
  refine x_iconst (v := (1 : Int32)) C dX1_isHopeless_3 (by decide) ?_
  refine x_callV (As := [.int _, .int _]) (n := 2) C (kS_get l D cI cS aS _ 6 (by decide) _ _) (fun hh => nomatch hh) wm_X1_15 wi_X3_get we_X3_get wz_X3 wc_X3_get (by decide +kernel) rfl hP hD hS hA 13 1 rfl rfl rfl hl.1 dX1_isHopeless_4 rfl (Nat.le_of_ble_eq_true rfl) ⟨Nat.le_of_ble_eq_true rfl, Nat.le_of_ble_eq_true rfl⟩ ⟨Nat.zero_le _, Nat.zero_le _⟩ (fun H locs hP hD hS => ?_)
  refine x_aload_n C dX1_isHopeless_7 rfl hl 0 rfl ?_
  refine x_get C inX2 hP 0 rfl rfl 12 (by decide) wf_X1_93 rfl dX1_isHopeless_8 ?_
  refine x_isub C dX1_isHopeless_11 ?_
  refine x_max C hl.1 wm_X1_96 wt_J9_max_7cf53 wz_J9 wc_J9_max_7cf53 (by decide) (Nat.le_of_ble_eq_true rfl) ⟨Nat.zero_le _, Nat.zero_le _⟩ dX1_isHopeless_12 ?_
  refine x_nmi h (fun v3 h => ?_)
  refine x_istore_n (lv' := [(3, .int v3), (0, .ref (aS 0)), (1, .ref (aS 13)), (2, .int p3)]) C dX1_isHopeless_15 rfl hl (by decide) rfl (fun ls hl => ?_)
  refine x_aload_n C dX1_isHopeless_16 rfl hl 2 rfl ?_
  refine x_iload_n C dX1_isHopeless_17 rfl hl 3 rfl ?_
  refine x_iconst (v := (2 : Int32)) C dX1_isHopeless_18 (by decide) ?_
  refine x_callV (As := [.int _, .int _]) (n := 2) C (kS_get l D cI cS aS _ 6 (by decide) _ _) (fun hh => nomatch hh) wm_X1_15 wi_X3_get we_X3_get wz_X3 wc_X3_get (by decide +kernel) rfl hP hD hS hA 13 1 rfl rfl rfl hl.1 dX1_isHopeless_19 rfl (Nat.le_of_ble_eq_true rfl) ⟨Nat.le_of_ble_eq_true rfl, Nat.le_of_ble_eq_true rfl⟩ ⟨Nat.zero_le _, Nat.zero_le _⟩ (fun H locs hP hD hS => ?_)
  refine x_aload_n C dX1_isHopeless_22 rfl hl 2 rfl ?_
  refine x_iload_n C dX1_isHopeless_23 rfl hl 3 rfl ?_
  refine x_iconst (v := (3 : Int32)) C dX1_isHopeless_24 (by decide) ?_
  refine x_callV (As := [.int _, .int _]) (n := 2) C (kS_get l D cI cS aS _ 6 (by decide) _ _) (fun hh => nomatch hh) wm_X1_15 wi_X3_get we_X3_get wz_X3 wc_X3_get (by decide +kernel) rfl hP hD hS hA 13 1 rfl rfl rfl hl.1 dX1_isHopeless_25 rfl (Nat.le_of_ble_eq_true rfl) ⟨Nat.le_of_ble_eq_true rfl, Nat.le_of_ble_eq_true rfl⟩ ⟨Nat.zero_le _, Nat.zero_le _⟩ (fun H locs hP hD hS => ?_)
  refine x_iadd C dX1_isHopeless_28 ?_
  refine x_nmi h (fun v4 h => ?_)
  refine x_istore (lv' := [(4, .int v4), (3, .int v3), (0, .ref (aS 0)), (1, .ref (aS 13)), (2, .int p3)]) C dX1_isHopeless_29 hl (by decide) rfl (fun ls hl => ?_)
  refine x_aload_n C dX1_isHopeless_31 rfl hl 2 rfl ?_
  refine x_get C inX2 hP 0 rfl rfl 4 (by decide) wf_X1_101 rfl dX1_isHopeless_32 ?_
  refine x_iconst (v := (1 : Int32)) C dX1_isHopeless_35 (by decide) ?_
  refine x_iconst (v := (0 : Int32)) C dX1_isHopeless_36 (by decide) ?_
  refine x_callV (As := [.int _, .int _]) (n := 2) C (kS_get l D cI cS aS _ 4 (by decide) _ _) (fun hh => nomatch hh) wm_X1_15 wi_X3_get we_X3_get wz_X3 wc_X3_get (by decide +kernel) rfl hP hD hS hA 9 1 rfl rfl rfl hl.1 dX1_isHopeless_37 rfl (Nat.le_of_ble_eq_true rfl) ⟨Nat.le_of_ble_eq_true rfl, Nat.le_of_ble_eq_true rfl⟩ ⟨Nat.zero_le _, Nat.zero_le _⟩ (fun H locs hP hD hS => ?_)
  refine x_iconst (v := (1 : Int32)) C dX1_isHopeless_40 (by decide) ?_
  refine x_icmp_ne (tgt := 54) C h dX1_isHopeless_41 (by decide) (fun h => ?_) (fun h => ?_)
  · exact B54  h _ _ _ hP hD hS (lv_sub hl [] rfl)
  · refine x_iload_n C dX1_isHopeless_44 rfl hl 1 rfl ?_
    refine x_iload C dX1_isHopeless_45 hl 0 rfl ?_
    refine x_icmp_ge (tgt := 54) C h dX1_isHopeless_47 (by decide) (fun h => ?_) (fun h => ?_)
    · exact B54  h _ _ _ hP hD hS (lv_sub hl [] rfl)
    · refine x_iconst (v := (1 : Int32)) C dX1_isHopeless_50 (by decide) ?_
      refine x_goto (tgt := 55) C dX1_isHopeless_51 (by decide) ?_
      exact B55 _ h _ _ _ hP hD hS (lv_sub hl [] rfl)
def bfX1_isHopeless_7_55 (p3 : Int32) (S : StS) (s0 : Int32) : Option (Int32) :=
  (if s0 = 0 ∨ s0 = 1 then some s0 else none)
def bfX1_isHopeless_7_54 (p3 : Int32) (S : StS) : Option (Int32) :=
  bfX1_isHopeless_7_55 p3 S  ((0 : Int32))
def fX1_isHopeless_7 (p3 : Int32) (S : StS) : Option (Int32) :=
  nm ((if (0 : Int32) < ((sget 7 S p3 (1 : Int32)) - (S.2 12)) then ((sget 7 S p3 (1 : Int32)) - (S.2 12)) else (0 : Int32))) fun v3 => nm (((sget 7 S p3 (2 : Int32)) + (sget 7 S p3 (3 : Int32)))) fun v4 => (if (sget 4 S (1 : Int32) (0 : Int32)) = (1 : Int32) then (if v4 ≤ v3 then bfX1_isHopeless_7_54 p3 S else bfX1_isHopeless_7_55 p3 S  ((1 : Int32))) else bfX1_isHopeless_7_54 p3 S)
set_option maxHeartbeats 4000000 in
set_option maxRecDepth 100000 in
theorem kX1_isHopeless_7 (l : Launch) (D : va_G) (cI cS : ClassId) (aS : Nat → Nat) (p3 : Int32) (S : StS) {q : Int32} (h : fX1_isHopeless_7 p3 S = some q) : Mc l D (tyL cI cS) false yX1_isHopeless cX1_isHopeless 5 (some .boolean) 2 [.ref (aS 0), .ref (aS 15), .int p3] (wS cI aS S) (some (.int q)) (wS cI aS S) := by
  refine Mc_of RX1 (by decide +kernel) rfl wc_X1_isHopeless (Nat.le_of_ble_eq_true rfl) ?_
  intro p e s m args below meth c A Q ls C hA hz hP hD hS hl RET
  have RETh : ∀ {pc : Nat} {ls : Array Slot} {H : Heap} {locs : List Loc} {x : Int32} , (x = 0 ∨ x = 1) → decode cX1_isHopeless pc = .ok (.ireturn, 1) → some x = some q → va_P D vwCl (wS cI aS S) H → va_D A (wS cI aS S) → va_S A s.heap H locs → W p l e (rmL 2) s m args below meth c H locs 0 0 Q (F0 m pc ls [.int x]) := by
    intro pc ls H locs x hx hd h hP hD hS; cases h; exact RET (x_zret C hx hd) hP hD hS
  have B55 : ∀ (s0 : Int32), bfX1_isHopeless_7_55 p3 S s0 = some q → ∀ (H : Heap) (locs : List Loc) (ls : Array Slot), va_P D vwCl (wS cI aS S) H → va_D A (wS cI aS S) → va_S A s.heap H locs → lv_has ls 5 [] → W p l e (rmL 2) s m args below meth c H locs 0 0 Q (F0 m 55 ls [.int s0]) := by
    intro s0 h H locs ls hP hD hS hl
    rcases x_ifn h with ⟨hc, h⟩
    exact RETh hc dX1_isHopeless_55 h hP hD hS
  have B54 : bfX1_isHopeless_7_54 p3 S = some q → ∀ (H : Heap) (locs : List Loc) (ls : Array Slot), va_P D vwCl (wS cI aS S) H → va_D A (wS cI aS S) → va_S A s.heap H locs → lv_has ls 5 [] → W p l e (rmL 2) s m args below meth c H locs 0 0 Q (F0 m 54 ls []) := by
    intro  h H locs ls hP hD hS hl
    refine x_iconst (v := (0 : Int32)) C dX1_isHopeless_54 (by decide) ?_
    exact B55 _ h _ _ _ hP hD hS hl
  refine x_iconst (v := (0 : Int32)) C dX1_isHopeless_0 (by decide) ?_
  refine x_aload_n C dX1_isHopeless_1 rfl hl 1 rfl ?_
  refine x_iload_n C dX1_isHopeless_2 rfl hl 2 rfl ?_
  refine x_iconst (v := (1 : Int32)) C dX1_isHopeless_3 (by decide) ?_
  refine x_callV (As := [.int _, .int _]) (n := 2) C (kS_get l D cI cS aS _ 7 (by decide) _ _) (fun hh => nomatch hh) wm_X1_15 wi_X3_get we_X3_get wz_X3 wc_X3_get (by decide +kernel) rfl hP hD hS hA 15 1 rfl rfl rfl hl.1 dX1_isHopeless_4 rfl (Nat.le_of_ble_eq_true rfl) ⟨Nat.le_of_ble_eq_true rfl, Nat.le_of_ble_eq_true rfl⟩ ⟨Nat.zero_le _, Nat.zero_le _⟩ (fun H locs hP hD hS => ?_)
  refine x_aload_n C dX1_isHopeless_7 rfl hl 0 rfl ?_
  refine x_get C inX2 hP 0 rfl rfl 12 (by decide) wf_X1_93 rfl dX1_isHopeless_8 ?_
  refine x_isub C dX1_isHopeless_11 ?_
  refine x_max C hl.1 wm_X1_96 wt_J9_max_7cf53 wz_J9 wc_J9_max_7cf53 (by decide) (Nat.le_of_ble_eq_true rfl) ⟨Nat.zero_le _, Nat.zero_le _⟩ dX1_isHopeless_12 ?_
  refine x_nmi h (fun v3 h => ?_)
  refine x_istore_n (lv' := [(3, .int v3), (0, .ref (aS 0)), (1, .ref (aS 15)), (2, .int p3)]) C dX1_isHopeless_15 rfl hl (by decide) rfl (fun ls hl => ?_)
  refine x_aload_n C dX1_isHopeless_16 rfl hl 2 rfl ?_
  refine x_iload_n C dX1_isHopeless_17 rfl hl 3 rfl ?_
  refine x_iconst (v := (2 : Int32)) C dX1_isHopeless_18 (by decide) ?_
  refine x_callV (As := [.int _, .int _]) (n := 2) C (kS_get l D cI cS aS _ 7 (by decide) _ _) (fun hh => nomatch hh) wm_X1_15 wi_X3_get we_X3_get wz_X3 wc_X3_get (by decide +kernel) rfl hP hD hS hA 15 1 rfl rfl rfl hl.1 dX1_isHopeless_19 rfl (Nat.le_of_ble_eq_true rfl) ⟨Nat.le_of_ble_eq_true rfl, Nat.le_of_ble_eq_true rfl⟩ ⟨Nat.zero_le _, Nat.zero_le _⟩ (fun H locs hP hD hS => ?_)
  refine x_aload_n C dX1_isHopeless_22 rfl hl 2 rfl ?_
  refine x_iload_n C dX1_isHopeless_23 rfl hl 3 rfl ?_
  refine x_iconst (v := (3 : Int32)) C dX1_isHopeless_24 (by decide) ?_
  refine x_callV (As := [.int _, .int _]) (n := 2) C (kS_get l D cI cS aS _ 7 (by decide) _ _) (fun hh => nomatch hh) wm_X1_15 wi_X3_get we_X3_get wz_X3 wc_X3_get (by decide +kernel) rfl hP hD hS hA 15 1 rfl rfl rfl hl.1 dX1_isHopeless_25 rfl (Nat.le_of_ble_eq_true rfl) ⟨Nat.le_of_ble_eq_true rfl, Nat.le_of_ble_eq_true rfl⟩ ⟨Nat.zero_le _, Nat.zero_le _⟩ (fun H locs hP hD hS => ?_)
  refine x_iadd C dX1_isHopeless_28 ?_
  refine x_nmi h (fun v4 h => ?_)
  refine x_istore (lv' := [(4, .int v4), (3, .int v3), (0, .ref (aS 0)), (1, .ref (aS 15)), (2, .int p3)]) C dX1_isHopeless_29 hl (by decide) rfl (fun ls hl => ?_)
  refine x_aload_n C dX1_isHopeless_31 rfl hl 2 rfl ?_
  refine x_get C inX2 hP 0 rfl rfl 4 (by decide) wf_X1_101 rfl dX1_isHopeless_32 ?_
  refine x_iconst (v := (1 : Int32)) C dX1_isHopeless_35 (by decide) ?_
  refine x_iconst (v := (0 : Int32)) C dX1_isHopeless_36 (by decide) ?_
  refine x_callV (As := [.int _, .int _]) (n := 2) C (kS_get l D cI cS aS _ 4 (by decide) _ _) (fun hh => nomatch hh) wm_X1_15 wi_X3_get we_X3_get wz_X3 wc_X3_get (by decide +kernel) rfl hP hD hS hA 9 1 rfl rfl rfl hl.1 dX1_isHopeless_37 rfl (Nat.le_of_ble_eq_true rfl) ⟨Nat.le_of_ble_eq_true rfl, Nat.le_of_ble_eq_true rfl⟩ ⟨Nat.zero_le _, Nat.zero_le _⟩ (fun H locs hP hD hS => ?_)
  refine x_iconst (v := (1 : Int32)) C dX1_isHopeless_40 (by decide) ?_
  refine x_icmp_ne (tgt := 54) C h dX1_isHopeless_41 (by decide) (fun h => ?_) (fun h => ?_)
  · exact B54  h _ _ _ hP hD hS (lv_sub hl [] rfl)
  · refine x_iload_n C dX1_isHopeless_44 rfl hl 1 rfl ?_
    refine x_iload C dX1_isHopeless_45 hl 0 rfl ?_
    refine x_icmp_ge (tgt := 54) C h dX1_isHopeless_47 (by decide) (fun h => ?_) (fun h => ?_)
    · exact B54  h _ _ _ hP hD hS (lv_sub hl [] rfl)
    · refine x_iconst (v := (1 : Int32)) C dX1_isHopeless_50 (by decide) ?_
      refine x_goto (tgt := 55) C dX1_isHopeless_51 (by decide) ?_
      exact B55 _ h _ _ _ hP hD hS (lv_sub hl [] rfl)
theorem dX1_takeAtBack_0 : decode cX1_takeAtBack 0 = .ok (.aload_n 0, 1) := by decide +kernel
theorem dX1_takeAtBack_1 : decode cX1_takeAtBack 1 = .ok (.getfield 38, 3) := by decide +kernel
theorem dX1_takeAtBack_4 : decode cX1_takeAtBack 4 = .ok (.iconst 0, 1) := by decide +kernel
theorem dX1_takeAtBack_5 : decode cX1_takeAtBack 5 = .ok (.iconst 0, 1) := by decide +kernel
theorem dX1_takeAtBack_6 : decode cX1_takeAtBack 6 = .ok (.invokevirtual 15, 3) := by decide +kernel
theorem dX1_takeAtBack_9 : decode cX1_takeAtBack 9 = .ok (.istore_n 2, 1) := by decide +kernel
theorem dX1_takeAtBack_10 : decode cX1_takeAtBack 10 = .ok (.aload_n 0, 1) := by decide +kernel
theorem dX1_takeAtBack_11 : decode cX1_takeAtBack 11 = .ok (.getfield 38, 3) := by decide +kernel
theorem dX1_takeAtBack_14 : decode cX1_takeAtBack 14 = .ok (.iconst 0, 1) := by decide +kernel
theorem dX1_takeAtBack_15 : decode cX1_takeAtBack 15 = .ok (.invokevirtual 70, 3) := by decide +kernel
theorem dX1_takeAtBack_18 : decode cX1_takeAtBack 18 = .ok (.aload_n 0, 1) := by decide +kernel
theorem dX1_takeAtBack_19 : decode cX1_takeAtBack 19 = .ok (.aload_n 0, 1) := by decide +kernel
theorem dX1_takeAtBack_20 : decode cX1_takeAtBack 20 = .ok (.getfield 59, 3) := by decide +kernel
theorem dX1_takeAtBack_23 : decode cX1_takeAtBack 23 = .ok (.iload_n 2, 1) := by decide +kernel
theorem dX1_takeAtBack_24 : decode cX1_takeAtBack 24 = .ok (.invokestatic 74, 3) := by decide +kernel
theorem dX1_takeAtBack_27 : decode cX1_takeAtBack 27 = .ok (.ifCond .eq 9, 3) := by decide +kernel
theorem dX1_takeAtBack_30 : decode cX1_takeAtBack 30 = .ok (.aload_n 0, 1) := by decide +kernel
theorem dX1_takeAtBack_31 : decode cX1_takeAtBack 31 = .ok (.iload_n 2, 1) := by decide +kernel
theorem dX1_takeAtBack_32 : decode cX1_takeAtBack 32 = .ok (.invokestatic 78, 3) := by decide +kernel
theorem dX1_takeAtBack_35 : decode cX1_takeAtBack 35 = .ok (.ireturn, 1) := by decide +kernel
theorem dX1_takeAtBack_36 : decode cX1_takeAtBack 36 = .ok (.aload_n 0, 1) := by decide +kernel
theorem dX1_takeAtBack_37 : decode cX1_takeAtBack 37 = .ok (.getfield 44, 3) := by decide +kernel
theorem dX1_takeAtBack_40 : decode cX1_takeAtBack 40 = .ok (.iload_n 1, 1) := by decide +kernel
theorem dX1_takeAtBack_41 : decode cX1_takeAtBack 41 = .ok (.iconst 0, 1) := by decide +kernel
theorem dX1_takeAtBack_42 : decode cX1_takeAtBack 42 = .ok (.iload_n 2, 1) := by decide +kernel
theorem dX1_takeAtBack_43 : decode cX1_takeAtBack 43 = .ok (.invokevirtual 28, 3) := by decide +kernel
theorem dX1_takeAtBack_46 : decode cX1_takeAtBack 46 = .ok (.aload_n 0, 1) := by decide +kernel
theorem dX1_takeAtBack_47 : decode cX1_takeAtBack 47 = .ok (.getfield 59, 3) := by decide +kernel
theorem dX1_takeAtBack_50 : decode cX1_takeAtBack 50 = .ok (.iload_n 2, 1) := by decide +kernel
theorem dX1_takeAtBack_51 : decode cX1_takeAtBack 51 = .ok (.iconst 5, 1) := by decide +kernel
theorem dX1_takeAtBack_52 : decode cX1_takeAtBack 52 = .ok (.iconst 4, 1) := by decide +kernel
theorem dX1_takeAtBack_53 : decode cX1_takeAtBack 53 = .ok (.invokevirtual 28, 3) := by decide +kernel
theorem dX1_takeAtBack_56 : decode cX1_takeAtBack 56 = .ok (.bipush (-9), 2) := by decide +kernel
theorem dX1_takeAtBack_58 : decode cX1_takeAtBack 58 = .ok (.ireturn, 1) := by decide +kernel
def fX1_takeAtBack (p2 : Int32) (S : StS) : Option (Int32 × (StS)) :=
  nm ((sget 8 S (0 : Int32) (0 : Int32))) fun v7 => nm (sdrop 8 S (0 : Int32)) fun S8 => ob (fX1_isHopeless_7 v7 S8) fun u9 => (if u9 = 0 then nm (sput 9 S8 p2 (0 : Int32) v7) fun S10 => nm (sput 7 S10 v7 (5 : Int32) (4 : Int32)) fun S11 => some ((-9 : Int32), S11) else ob (fX1_waste v7 S8) fun u12 => some (u12.1, u12.2))
set_option maxHeartbeats 4000000 in
set_option maxRecDepth 100000 in
theorem kX1_takeAtBack (l : Launch) (D : va_G) (cI cS : ClassId) (aS : Nat → Nat) (p2 : Int32) (S : StS) {q : Int32 × (StS)} (h : fX1_takeAtBack p2 S = some q) : Mc l D (tyL cI cS) false yX1_takeAtBack cX1_takeAtBack 3 (some .int) 3 [.ref (aS 0), .int p2] (wS cI aS S) (some (.int q.1)) (wS cI aS q.2) := by
  refine Mc_of RX1 (by decide +kernel) rfl wc_X1_takeAtBack (Nat.le_of_ble_eq_true rfl) ?_
  intro p e s m args below meth c A Q ls C hA hz hP hD hS hl RET
  have RETh : ∀ {pc : Nat} {ls : Array Slot} {H : Heap} {locs : List Loc} {x : Int32} {S1 : StS}, decode cX1_takeAtBack pc = .ok (.ireturn, 1) → some (x, S1) = some q → va_P D vwCl (wS cI aS S1) H → va_D A (wS cI aS S1) → va_S A s.heap H locs → W p l e (rmL 3) s m args below meth c H locs 0 0 Q (F0 m pc ls [.int x]) := by
    intro pc ls H locs x S1 hd h hP hD hS; cases h; exact RET (x_iret C hd) hP hD hS
  refine x_aload_n C dX1_takeAtBack_0 rfl hl 0 rfl ?_
  refine x_get C inX2 hP 0 rfl rfl 8 (by decide) wf_X1_38 rfl dX1_takeAtBack_1 ?_
  refine x_iconst (v := (0 : Int32)) C dX1_takeAtBack_4 (by decide) ?_
  refine x_iconst (v := (0 : Int32)) C dX1_takeAtBack_5 (by decide) ?_
  refine x_callV (As := [.int _, .int _]) (n := 2) C (kS_get l D cI cS aS _ 8 (by decide) _ _) (fun hh => nomatch hh) wm_X1_15 wi_X3_get we_X3_get wz_X3 wc_X3_get (by decide +kernel) rfl hP hD hS hA 17 1 rfl rfl rfl hl.1 dX1_takeAtBack_6 rfl (Nat.le_of_ble_eq_true rfl) ⟨Nat.le_of_ble_eq_true rfl, Nat.le_of_ble_eq_true rfl⟩ ⟨Nat.zero_le _, Nat.zero_le _⟩ (fun H locs hP hD hS => ?_)
  refine x_nmi h (fun v7 h => ?_)
  refine x_istore_n (lv' := [(2, .int v7), (0, .ref (aS 0)), (1, .int p2)]) C dX1_takeAtBack_9 rfl hl (by decide) rfl (fun ls hl => ?_)
  refine x_aload_n C dX1_takeAtBack_10 rfl hl 1 rfl ?_
  refine x_get C inX2 hP 0 rfl rfl 8 (by decide) wf_X1_38 rfl dX1_takeAtBack_11 ?_
  refine x_iconst (v := (0 : Int32)) C dX1_takeAtBack_14 (by decide) ?_
  refine x_callV (As := [.int _]) (n := 1) C (kS_drop l D cI cS aS _ 8 (by decide) _) (fun hh => nomatch hh) wm_X1_70 wi_X3_drop we_X3_drop wz_X3 wc_X3_drop (by decide +kernel) rfl hP hD hS hA 17 1 rfl rfl rfl hl.1 dX1_takeAtBack_15 rfl (Nat.le_of_ble_eq_true rfl) ⟨Nat.le_of_ble_eq_true rfl, Nat.le_of_ble_eq_true rfl⟩ ⟨Nat.zero_le _, Nat.zero_le _⟩ (fun H locs hP hD hS => ?_)
  refine x_nmS (wS cI aS) h hP hD (fun S8 h hP hD => ?_)
  refine x_aload_n C dX1_takeAtBack_18 rfl hl 1 rfl ?_
  refine x_aload_n C dX1_takeAtBack_19 rfl hl 1 rfl ?_
  refine x_get C inX2 hP 0 rfl rfl 7 (by decide) wf_X1_59 rfl dX1_takeAtBack_20 ?_
  refine x_iload_n C dX1_takeAtBack_23 rfl hl 0 rfl ?_
  obtain ⟨u9, hu9, h⟩ := ob_some h
  refine x_callS (As := [.ref _, .ref _, .int _]) (n := 3) C (kX1_isHopeless_7 l D cI cS aS _ _ hu9) (fun hh => nomatch hh) wm_X1_74 wt_X1_isHopeless wz_X1 wc_X1_isHopeless (by decide +kernel) rfl hP hD hS hA hl.1 dX1_takeAtBack_24 rfl (Nat.le_of_ble_eq_true rfl) ⟨Nat.le_of_ble_eq_true rfl, Nat.le_of_ble_eq_true rfl⟩ ⟨Nat.zero_le _, Nat.zero_le _⟩ (fun H locs hP hD hS => ?_)
  refine x_if_eq (tgt := 36) C h dX1_takeAtBack_27 (by decide) (fun h => ?_) (fun h => ?_)
  · refine x_aload_n C dX1_takeAtBack_36 rfl hl 1 rfl ?_
    refine x_get C inX2 hP 0 rfl rfl 9 (by decide) wf_X1_44 rfl dX1_takeAtBack_37 ?_
    refine x_iload_n C dX1_takeAtBack_40 rfl hl 2 rfl ?_
    refine x_iconst (v := (0 : Int32)) C dX1_takeAtBack_41 (by decide) ?_
    refine x_iload_n C dX1_takeAtBack_42 rfl hl 0 rfl ?_
    refine x_callV (As := [.int _, .int _, .int _]) (n := 3) C (kS_put l D cI cS aS _ 9 (by decide) _ _ _) (fun hh => nomatch hh) wm_X1_28 wi_X3_put we_X3_put wz_X3 wc_X3_put (by decide +kernel) rfl hP hD hS hA 19 1 rfl rfl rfl hl.1 dX1_takeAtBack_43 rfl (Nat.le_of_ble_eq_true rfl) ⟨Nat.le_of_ble_eq_true rfl, Nat.le_of_ble_eq_true rfl⟩ ⟨Nat.zero_le _, Nat.zero_le _⟩ (fun H locs hP hD hS => ?_)
    refine x_nmS (wS cI aS) h hP hD (fun S10 h hP hD => ?_)
    refine x_aload_n C dX1_takeAtBack_46 rfl hl 1 rfl ?_
    refine x_get C inX2 hP 0 rfl rfl 7 (by decide) wf_X1_59 rfl dX1_takeAtBack_47 ?_
    refine x_iload_n C dX1_takeAtBack_50 rfl hl 0 rfl ?_
    refine x_iconst (v := (5 : Int32)) C dX1_takeAtBack_51 (by decide) ?_
    refine x_iconst (v := (4 : Int32)) C dX1_takeAtBack_52 (by decide) ?_
    refine x_callV (As := [.int _, .int _, .int _]) (n := 3) C (kS_put l D cI cS aS _ 7 (by decide) _ _ _) (fun hh => nomatch hh) wm_X1_28 wi_X3_put we_X3_put wz_X3 wc_X3_put (by decide +kernel) rfl hP hD hS hA 15 1 rfl rfl rfl hl.1 dX1_takeAtBack_53 rfl (Nat.le_of_ble_eq_true rfl) ⟨Nat.le_of_ble_eq_true rfl, Nat.le_of_ble_eq_true rfl⟩ ⟨Nat.zero_le _, Nat.zero_le _⟩ (fun H locs hP hD hS => ?_)
    refine x_nmS (wS cI aS) h hP hD (fun S11 h hP hD => ?_)
    refine x_bipush (v := (-9 : Int32)) C dX1_takeAtBack_56 (by decide) ?_
    exact RETh dX1_takeAtBack_58 h hP hD hS
  · refine x_aload_n C dX1_takeAtBack_30 rfl hl 1 rfl ?_
    refine x_iload_n C dX1_takeAtBack_31 rfl hl 0 rfl ?_
    obtain ⟨u12, hu12, h⟩ := ob_some h
    refine x_callS (As := [.ref _, .int _]) (n := 2) C (kX1_waste l D cI cS aS _ _ hu12) (fun hh => nomatch hh) wm_X1_78 wt_X1_waste wz_X1 wc_X1_waste (by decide +kernel) rfl hP hD hS hA hl.1 dX1_takeAtBack_32 rfl (Nat.le_of_ble_eq_true rfl) ⟨Nat.le_of_ble_eq_true rfl, Nat.le_of_ble_eq_true rfl⟩ ⟨Nat.zero_le _, Nat.zero_le _⟩ (fun H locs hP hD hS => ?_)
    exact RETh dX1_takeAtBack_35 h hP hD hS
theorem dX1_fillBackWorkers_0 : decode cX1_fillBackWorkers 0 = .ok (.aload_n 0, 1) := by decide +kernel
theorem dX1_fillBackWorkers_1 : decode cX1_fillBackWorkers 1 = .ok (.getfield 35, 3) := by decide +kernel
theorem dX1_fillBackWorkers_4 : decode cX1_fillBackWorkers 4 = .ok (.iconst 2, 1) := by decide +kernel
theorem dX1_fillBackWorkers_5 : decode cX1_fillBackWorkers 5 = .ok (.iconst 0, 1) := by decide +kernel
theorem dX1_fillBackWorkers_6 : decode cX1_fillBackWorkers 6 = .ok (.invokevirtual 15, 3) := by decide +kernel
theorem dX1_fillBackWorkers_9 : decode cX1_fillBackWorkers 9 = .ok (.istore_n 1, 1) := by decide +kernel
theorem dX1_fillBackWorkers_10 : decode cX1_fillBackWorkers 10 = .ok (.iconst 0, 1) := by decide +kernel
theorem dX1_fillBackWorkers_11 : decode cX1_fillBackWorkers 11 = .ok (.istore_n 2, 1) := by decide +kernel
theorem dX1_fillBackWorkers_12 : decode cX1_fillBackWorkers 12 = .ok (.iload_n 2, 1) := by decide +kernel
theorem dX1_fillBackWorkers_13 : decode cX1_fillBackWorkers 13 = .ok (.iload_n 1, 1) := by decide +kernel
theorem dX1_fillBackWorkers_14 : decode cX1_fillBackWorkers 14 = .ok (.if_icmp .ge 52, 3) := by decide +kernel
theorem dX1_fillBackWorkers_17 : decode cX1_fillBackWorkers 17 = .ok (.aload_n 0, 1) := by decide +kernel
theorem dX1_fillBackWorkers_18 : decode cX1_fillBackWorkers 18 = .ok (.getfield 38, 3) := by decide +kernel
theorem dX1_fillBackWorkers_21 : decode cX1_fillBackWorkers 21 = .ok (.invokevirtual 41, 3) := by decide +kernel
theorem dX1_fillBackWorkers_24 : decode cX1_fillBackWorkers 24 = .ok (.istore_n 3, 1) := by decide +kernel
theorem dX1_fillBackWorkers_25 : decode cX1_fillBackWorkers 25 = .ok (.iload_n 3, 1) := by decide +kernel
theorem dX1_fillBackWorkers_26 : decode cX1_fillBackWorkers 26 = .ok (.ifCond .le 34, 3) := by decide +kernel
theorem dX1_fillBackWorkers_29 : decode cX1_fillBackWorkers 29 = .ok (.aload_n 0, 1) := by decide +kernel
theorem dX1_fillBackWorkers_30 : decode cX1_fillBackWorkers 30 = .ok (.getfield 44, 3) := by decide +kernel
theorem dX1_fillBackWorkers_33 : decode cX1_fillBackWorkers 33 = .ok (.iload_n 2, 1) := by decide +kernel
theorem dX1_fillBackWorkers_34 : decode cX1_fillBackWorkers 34 = .ok (.iconst 0, 1) := by decide +kernel
theorem dX1_fillBackWorkers_35 : decode cX1_fillBackWorkers 35 = .ok (.invokevirtual 15, 3) := by decide +kernel
theorem dX1_fillBackWorkers_38 : decode cX1_fillBackWorkers 38 = .ok (.bipush (-9), 2) := by decide +kernel
theorem dX1_fillBackWorkers_40 : decode cX1_fillBackWorkers 40 = .ok (.if_icmp .ne 20, 3) := by decide +kernel
theorem dX1_fillBackWorkers_43 : decode cX1_fillBackWorkers 43 = .ok (.aload_n 0, 1) := by decide +kernel
theorem dX1_fillBackWorkers_44 : decode cX1_fillBackWorkers 44 = .ok (.aload_n 0, 1) := by decide +kernel
theorem dX1_fillBackWorkers_45 : decode cX1_fillBackWorkers 45 = .ok (.iload_n 2, 1) := by decide +kernel
theorem dX1_fillBackWorkers_46 : decode cX1_fillBackWorkers 46 = .ok (.invokestatic 47, 3) := by decide +kernel
theorem dX1_fillBackWorkers_49 : decode cX1_fillBackWorkers 49 = .ok (.bipush 6, 2) := by decide +kernel
theorem dX1_fillBackWorkers_51 : decode cX1_fillBackWorkers 51 = .ok (.invokestatic 53, 3) := by decide +kernel
theorem dX1_fillBackWorkers_54 : decode cX1_fillBackWorkers 54 = .ok (.iinc 3 (-1), 3) := by decide +kernel
theorem dX1_fillBackWorkers_57 : decode cX1_fillBackWorkers 57 = .ok (.goto (-32), 3) := by decide +kernel
theorem dX1_fillBackWorkers_60 : decode cX1_fillBackWorkers 60 = .ok (.iinc 2 1, 3) := by decide +kernel
theorem dX1_fillBackWorkers_63 : decode cX1_fillBackWorkers 63 = .ok (.goto (-51), 3) := by decide +kernel
theorem dX1_fillBackWorkers_66 : decode cX1_fillBackWorkers 66 = .ok (.return_, 1) := by decide +kernel
def bfX1_fillBackWorkers_60  (K12 : Int32 × Int32 × (StS) → Option (StS)) (x1 : Int32) (x2 : Int32) (S : StS) : Option (StS) :=
  K12 (x1, (x2 + (1 : Int32)), S)
def bfX1_fillBackWorkers_25  (K12 : Int32 × Int32 × (StS) → Option (StS)) (K25 : Int32 × Int32 × Int32 × (StS) → Option (StS)) (x : Int32 × Int32 × Int32 × (StS)) : Option (StS) :=
  match x with
  | (x1, x2, x3, S) => (if x3 ≤ 0 then bfX1_fillBackWorkers_60  K12 x1 x2 S else (if (sget 9 S x2 (0 : Int32)) = (-9 : Int32) then ob (fX1_takeAtBack x2 S) fun u5 => ob (fX0_fail u5.1 (6 : Int32) u5.2) fun u6 => K25 (x1, x2, (x3 + (-1 : Int32)), u6) else bfX1_fillBackWorkers_60  K12 x1 x2 S))
def bfX1_fillBackWorkers_12  (K12 : Int32 × Int32 × (StS) → Option (StS)) (x : Int32 × Int32 × (StS)) : Option (StS) :=
  match x with
  | (x1, x2, S) => (if x1 ≤ x2 then some S else nm ((ssize 8 S)) fun v7 => iter (bfX1_fillBackWorkers_25  K12) FU (x1, x2, v7, S))
def fX1_fillBackWorkers  (S : StS) : Option (StS) :=
  nm ((sget 3 S (2 : Int32) (0 : Int32))) fun v8 => iter (bfX1_fillBackWorkers_12) FU (v8, (0 : Int32), S)
set_option maxHeartbeats 4000000 in
set_option maxRecDepth 100000 in
theorem kX1_fillBackWorkers (l : Launch) (D : va_G) (cI cS : ClassId) (aS : Nat → Nat)  (S : StS) {q : StS} (h : fX1_fillBackWorkers  S = some q) : Mc l D (tyL cI cS) false yX1_fillBackWorkers cX1_fillBackWorkers 4 none 4 [.ref (aS 0)] (wS cI aS S) none (wS cI aS q) := by
  refine Mc_of RX1 (by decide +kernel) rfl wc_X1_fillBackWorkers (Nat.le_of_ble_eq_true rfl) ?_
  intro p e s m args below meth c A Q ls C hA hz hP hD hS hl RET
  have RETh : ∀ {pc : Nat} {ls : Array Slot} {H : Heap} {locs : List Loc} {S1 : StS}, decode cX1_fillBackWorkers pc = .ok (.return_, 1) → some S1 = some q → va_P D vwCl (wS cI aS S1) H → va_D A (wS cI aS S1) → va_S A s.heap H locs → W p l e (rmL 4) s m args below meth c H locs 0 0 Q (F0 m pc ls []) := by
    intro pc ls H locs S1 hd h hP hD hS; cases h; exact RET (x_vret C hd) hP hD hS
  have B60 : ∀ (K12 : Int32 × Int32 × (StS) → Option (StS)) (ih12 : ∀ x, K12 x = some q → (match x with | (x1, x2, S) => ∀ (H : Heap) (locs : List Loc) (ls : Array Slot), va_P D vwCl (wS cI aS S) H → va_D A (wS cI aS S) → va_S A s.heap H locs → lv_has ls 4 [(0, .ref (aS 0)), (1, .int x1), (2, .int x2)] → W p l e (rmL 4) s m args below meth c H locs 0 0 Q (F0 m 12 ls []))) (x1 : Int32) (x2 : Int32) (S : StS), bfX1_fillBackWorkers_60 K12 x1 x2 S = some q → ∀ (H : Heap) (locs : List Loc) (ls : Array Slot), va_P D vwCl (wS cI aS S) H → va_D A (wS cI aS S) → va_S A s.heap H locs → lv_has ls 4 [(0, .ref (aS 0)), (1, .int x1), (2, .int x2)] → W p l e (rmL 4) s m args below meth c H locs 0 0 Q (F0 m 60 ls []) := by
    intro K12 ih12 x1 x2 S h H locs ls hP hD hS hl
    refine x_iinc (v := (x2 + (1 : Int32))) (lv' := [(2, .int (x2 + (1 : Int32))), (0, .ref (aS 0)), (1, .int x1)]) C dX1_fillBackWorkers_60 hl (k := 2) rfl rfl (by decide) rfl (fun ls hl => ?_)
    refine x_goto (tgt := 12) C dX1_fillBackWorkers_63 (by decide) ?_
    exact ih12 _ h _ _ _ hP hD hS (lv_sub hl [1, 2, 0] rfl)
  have B25 : ∀ (K12 : Int32 × Int32 × (StS) → Option (StS)) (ih12 : ∀ x, K12 x = some q → (match x with | (x1, x2, S) => ∀ (H : Heap) (locs : List Loc) (ls : Array Slot), va_P D vwCl (wS cI aS S) H → va_D A (wS cI aS S) → va_S A s.heap H locs → lv_has ls 4 [(0, .ref (aS 0)), (1, .int x1), (2, .int x2)] → W p l e (rmL 4) s m args below meth c H locs 0 0 Q (F0 m 12 ls []))) (n : Nat) (x : Int32 × Int32 × Int32 × (StS)), iter (bfX1_fillBackWorkers_25 K12) n x = some q → (match x with | (x1, x2, x3, S) => ∀ (H : Heap) (locs : List Loc) (ls : Array Slot), va_P D vwCl (wS cI aS S) H → va_D A (wS cI aS S) → va_S A s.heap H locs → lv_has ls 4 [(0, .ref (aS 0)), (1, .int x1), (2, .int x2), (3, .int x3)] → W p l e (rmL 4) s m args below meth c H locs 0 0 Q (F0 m 25 ls [])) := by
    intro K12 ih12
    refine iter_ind (fun x : Int32 × Int32 × Int32 × (StS) => (match x with | (x1, x2, x3, S) => ∀ (H : Heap) (locs : List Loc) (ls : Array Slot), va_P D vwCl (wS cI aS S) H → va_D A (wS cI aS S) → va_S A s.heap H locs → lv_has ls 4 [(0, .ref (aS 0)), (1, .int x1), (2, .int x2), (3, .int x3)] → W p l e (rmL 4) s m args below meth c H locs 0 0 Q (F0 m 25 ls []))) ?_
    intro K25 ih25 x h
    obtain ⟨x1, x2, x3, S⟩ := x
    intro H locs ls hP hD hS hl
    refine x_iload_n C dX1_fillBackWorkers_25 rfl hl 3 rfl ?_
    refine x_if_le (tgt := 60) C h dX1_fillBackWorkers_26 (by decide) (fun h => ?_) (fun h => ?_)
    · exact B60 K12 ih12 _ _ _ h _ _ _ hP hD hS (lv_sub hl [0, 1, 2] rfl)
    · refine x_aload_n C dX1_fillBackWorkers_29 rfl hl 0 rfl ?_
      refine x_get C inX2 hP 0 rfl rfl 9 (by decide) wf_X1_44 rfl dX1_fillBackWorkers_30 ?_
      refine x_iload_n C dX1_fillBackWorkers_33 rfl hl 2 rfl ?_
      refine x_iconst (v := (0 : Int32)) C dX1_fillBackWorkers_34 (by decide) ?_
      refine x_callV (As := [.int _, .int _]) (n := 2) C (kS_get l D cI cS aS _ 9 (by decide) _ _) (fun hh => nomatch hh) wm_X1_15 wi_X3_get we_X3_get wz_X3 wc_X3_get (by decide +kernel) rfl hP hD hS hA 19 1 rfl rfl rfl hl.1 dX1_fillBackWorkers_35 rfl (Nat.le_of_ble_eq_true rfl) ⟨Nat.le_of_ble_eq_true rfl, Nat.le_of_ble_eq_true rfl⟩ ⟨Nat.zero_le _, Nat.zero_le _⟩ (fun H locs hP hD hS => ?_)
      refine x_bipush (v := (-9 : Int32)) C dX1_fillBackWorkers_38 (by decide) ?_
      refine x_icmp_ne (tgt := 60) C h dX1_fillBackWorkers_40 (by decide) (fun h => ?_) (fun h => ?_)
      · exact B60 K12 ih12 _ _ _ h _ _ _ hP hD hS (lv_sub hl [0, 1, 2] rfl)
      · refine x_aload_n C dX1_fillBackWorkers_43 rfl hl 0 rfl ?_
        refine x_aload_n C dX1_fillBackWorkers_44 rfl hl 0 rfl ?_
        refine x_iload_n C dX1_fillBackWorkers_45 rfl hl 2 rfl ?_
        obtain ⟨u5, hu5, h⟩ := ob_some h
        refine x_callS (As := [.ref _, .int _]) (n := 2) C (kX1_takeAtBack l D cI cS aS _ _ hu5) (fun hh => nomatch hh) wm_X1_47 wt_X1_takeAtBack wz_X1 wc_X1_takeAtBack (by decide +kernel) rfl hP hD hS hA hl.1 dX1_fillBackWorkers_46 rfl (Nat.le_of_ble_eq_true rfl) ⟨Nat.le_of_ble_eq_true rfl, Nat.le_of_ble_eq_true rfl⟩ ⟨Nat.zero_le _, Nat.zero_le _⟩ (fun H locs hP hD hS => ?_)
        refine x_bipush (v := (6 : Int32)) C dX1_fillBackWorkers_49 (by decide) ?_
        obtain ⟨u6, hu6, h⟩ := ob_some h
        refine x_callS (As := [.ref _, .int _, .int _]) (n := 3) C (kX0_fail l D cI cS aS _ _ _ hu6) (fun hh => nomatch hh) wm_X1_53 wt_X0_fail wz_X0 wc_X0_fail (by decide +kernel) rfl hP hD hS hA hl.1 dX1_fillBackWorkers_51 rfl (Nat.le_of_ble_eq_true rfl) ⟨Nat.le_of_ble_eq_true rfl, Nat.le_of_ble_eq_true rfl⟩ ⟨Nat.zero_le _, Nat.zero_le _⟩ (fun H locs hP hD hS => ?_)
        refine x_iinc (v := (x3 + (-1 : Int32))) (lv' := [(3, .int (x3 + (-1 : Int32))), (0, .ref (aS 0)), (1, .int x1), (2, .int x2)]) C dX1_fillBackWorkers_54 hl (k := 3) rfl rfl (by decide) rfl (fun ls hl => ?_)
        refine x_goto (tgt := 25) C dX1_fillBackWorkers_57 (by decide) ?_
        exact ih25 _ h _ _ _ hP hD hS (lv_sub hl [1, 2, 3, 0] rfl)
  have B12 : ∀ (n : Nat) (x : Int32 × Int32 × (StS)), iter (bfX1_fillBackWorkers_12) n x = some q → (match x with | (x1, x2, S) => ∀ (H : Heap) (locs : List Loc) (ls : Array Slot), va_P D vwCl (wS cI aS S) H → va_D A (wS cI aS S) → va_S A s.heap H locs → lv_has ls 4 [(0, .ref (aS 0)), (1, .int x1), (2, .int x2)] → W p l e (rmL 4) s m args below meth c H locs 0 0 Q (F0 m 12 ls [])) := by
    refine iter_ind (fun x : Int32 × Int32 × (StS) => (match x with | (x1, x2, S) => ∀ (H : Heap) (locs : List Loc) (ls : Array Slot), va_P D vwCl (wS cI aS S) H → va_D A (wS cI aS S) → va_S A s.heap H locs → lv_has ls 4 [(0, .ref (aS 0)), (1, .int x1), (2, .int x2)] → W p l e (rmL 4) s m args below meth c H locs 0 0 Q (F0 m 12 ls []))) ?_
    intro K12 ih12 x h
    obtain ⟨x1, x2, S⟩ := x
    intro H locs ls hP hD hS hl
    refine x_iload_n C dX1_fillBackWorkers_12 rfl hl 2 rfl ?_
    refine x_iload_n C dX1_fillBackWorkers_13 rfl hl 1 rfl ?_
    refine x_icmp_ge (tgt := 66) C h dX1_fillBackWorkers_14 (by decide) (fun h => ?_) (fun h => ?_)
    · exact RETh dX1_fillBackWorkers_66 h hP hD hS
    · refine x_aload_n C dX1_fillBackWorkers_17 rfl hl 0 rfl ?_
      refine x_get C inX2 hP 0 rfl rfl 8 (by decide) wf_X1_38 rfl dX1_fillBackWorkers_18 ?_
      refine x_callV (As := []) (n := 0) C (kS_size l D cI cS aS _ 8 (by decide)) (fun hh => nomatch hh) wm_X1_41 wi_X3_size we_X3_size wz_X3 wc_X3_size (by decide +kernel) rfl hP hD hS hA 17 1 rfl rfl rfl hl.1 dX1_fillBackWorkers_21 rfl (Nat.le_of_ble_eq_true rfl) ⟨Nat.le_of_ble_eq_true rfl, Nat.le_of_ble_eq_true rfl⟩ ⟨Nat.zero_le _, Nat.zero_le _⟩ (fun H locs hP hD hS => ?_)
      refine x_nmi h (fun v7 h => ?_)
      refine x_istore_n (lv' := [(3, .int v7), (0, .ref (aS 0)), (1, .int x1), (2, .int x2)]) C dX1_fillBackWorkers_24 rfl hl (by decide) rfl (fun ls hl => ?_)
      exact B25 K12 ih12 FU _ h _ _ _ hP hD hS (lv_sub hl [1, 2, 3, 0] rfl)
  refine x_aload_n C dX1_fillBackWorkers_0 rfl hl 0 rfl ?_
  refine x_get C inX2 hP 0 rfl rfl 3 (by decide) wf_X1_35 rfl dX1_fillBackWorkers_1 ?_
  refine x_iconst (v := (2 : Int32)) C dX1_fillBackWorkers_4 (by decide) ?_
  refine x_iconst (v := (0 : Int32)) C dX1_fillBackWorkers_5 (by decide) ?_
  refine x_callV (As := [.int _, .int _]) (n := 2) C (kS_get l D cI cS aS _ 3 (by decide) _ _) (fun hh => nomatch hh) wm_X1_15 wi_X3_get we_X3_get wz_X3 wc_X3_get (by decide +kernel) rfl hP hD hS hA 7 1 rfl rfl rfl hl.1 dX1_fillBackWorkers_6 rfl (Nat.le_of_ble_eq_true rfl) ⟨Nat.le_of_ble_eq_true rfl, Nat.le_of_ble_eq_true rfl⟩ ⟨Nat.zero_le _, Nat.zero_le _⟩ (fun H locs hP hD hS => ?_)
  refine x_nmi h (fun v8 h => ?_)
  refine x_istore_n (lv' := [(1, .int v8), (0, .ref (aS 0))]) C dX1_fillBackWorkers_9 rfl hl (by decide) rfl (fun ls hl => ?_)
  refine x_iconst (v := (0 : Int32)) C dX1_fillBackWorkers_10 (by decide) ?_
  refine x_istore_n (lv' := [(2, .int (0 : Int32)), (1, .int v8), (0, .ref (aS 0))]) C dX1_fillBackWorkers_11 rfl hl (by decide) rfl (fun ls hl => ?_)
  exact B12 FU _ h _ _ _ hP hD hS (lv_sub hl [2, 1, 0] rfl)
theorem dX1_firstToExpire_0 : decode cX1_firstToExpire 0 = .ok (.iconst 0, 1) := by decide +kernel
theorem dX1_firstToExpire_1 : decode cX1_firstToExpire 1 = .ok (.istore_n 1, 1) := by decide +kernel
theorem dX1_firstToExpire_2 : decode cX1_firstToExpire 2 = .ok (.iconst 1, 1) := by decide +kernel
theorem dX1_firstToExpire_3 : decode cX1_firstToExpire 3 = .ok (.istore_n 2, 1) := by decide +kernel
theorem dX1_firstToExpire_4 : decode cX1_firstToExpire 4 = .ok (.iload_n 2, 1) := by decide +kernel
theorem dX1_firstToExpire_5 : decode cX1_firstToExpire 5 = .ok (.aload_n 0, 1) := by decide +kernel
theorem dX1_firstToExpire_6 : decode cX1_firstToExpire 6 = .ok (.invokevirtual 41, 3) := by decide +kernel
theorem dX1_firstToExpire_9 : decode cX1_firstToExpire 9 = .ok (.if_icmp .ge 26, 3) := by decide +kernel
theorem dX1_firstToExpire_12 : decode cX1_firstToExpire 12 = .ok (.aload_n 0, 1) := by decide +kernel
theorem dX1_firstToExpire_13 : decode cX1_firstToExpire 13 = .ok (.iload_n 2, 1) := by decide +kernel
theorem dX1_firstToExpire_14 : decode cX1_firstToExpire 14 = .ok (.iconst 1, 1) := by decide +kernel
theorem dX1_firstToExpire_15 : decode cX1_firstToExpire 15 = .ok (.invokevirtual 15, 3) := by decide +kernel
theorem dX1_firstToExpire_18 : decode cX1_firstToExpire 18 = .ok (.aload_n 0, 1) := by decide +kernel
theorem dX1_firstToExpire_19 : decode cX1_firstToExpire 19 = .ok (.iload_n 1, 1) := by decide +kernel
theorem dX1_firstToExpire_20 : decode cX1_firstToExpire 20 = .ok (.iconst 1, 1) := by decide +kernel
theorem dX1_firstToExpire_21 : decode cX1_firstToExpire 21 = .ok (.invokevirtual 15, 3) := by decide +kernel
theorem dX1_firstToExpire_24 : decode cX1_firstToExpire 24 = .ok (.if_icmp .ge 5, 3) := by decide +kernel
theorem dX1_firstToExpire_27 : decode cX1_firstToExpire 27 = .ok (.iload_n 2, 1) := by decide +kernel
theorem dX1_firstToExpire_28 : decode cX1_firstToExpire 28 = .ok (.istore_n 1, 1) := by decide +kernel
theorem dX1_firstToExpire_29 : decode cX1_firstToExpire 29 = .ok (.iinc 2 1, 3) := by decide +kernel
theorem dX1_firstToExpire_32 : decode cX1_firstToExpire 32 = .ok (.goto (-28), 3) := by decide +kernel
theorem dX1_firstToExpire_35 : decode cX1_firstToExpire 35 = .ok (.iload_n 1, 1) := by decide +kernel
theorem dX1_firstToExpire_36 : decode cX1_firstToExpire 36 = .ok (.ireturn, 1) := by decide +kernel
def bfX1_firstToExpire_6_29 (S : StS) (K4 : Int32 × Int32 → Option (Int32)) (x1 : Int32) (x2 : Int32) : Option (Int32) :=
  K4 (x1, (x2 + (1 : Int32)))
def bfX1_firstToExpire_6_4 (S : StS) (K4 : Int32 × Int32 → Option (Int32)) (x : Int32 × Int32) : Option (Int32) :=
  match x with
  | (x1, x2) => (if (ssize 6 S) ≤ x2 then some x1 else (if (sget 6 S x1 (1 : Int32)) ≤ (sget 6 S x2 (1 : Int32)) then bfX1_firstToExpire_6_29 S K4 x1 x2 else bfX1_firstToExpire_6_29 S K4 x2 x2))
def fX1_firstToExpire_6 (S : StS) : Option (Int32) :=
  iter (bfX1_firstToExpire_6_4 S) FU ((0 : Int32), (1 : Int32))
set_option maxHeartbeats 4000000 in
set_option maxRecDepth 100000 in
theorem kX1_firstToExpire_6 (l : Launch) (D : va_G) (cI cS : ClassId) (aS : Nat → Nat) (S : StS) {q : Int32} (h : fX1_firstToExpire_6 S = some q) : Mc l D (tyL cI cS) false yX1_firstToExpire cX1_firstToExpire 3 (some .int) 2 [.ref (aS 13)] (wS cI aS S) (some (.int q)) (wS cI aS S) := by
  refine Mc_of RX1 (by decide +kernel) rfl wc_X1_firstToExpire (Nat.le_of_ble_eq_true rfl) ?_
  intro p e s m args below meth c A Q ls C hA hz hP hD hS hl RET
  have RETh : ∀ {pc : Nat} {ls : Array Slot} {H : Heap} {locs : List Loc} {x : Int32} , decode cX1_firstToExpire pc = .ok (.ireturn, 1) → some x = some q → va_P D vwCl (wS cI aS S) H → va_D A (wS cI aS S) → va_S A s.heap H locs → W p l e (rmL 2) s m args below meth c H locs 0 0 Q (F0 m pc ls [.int x]) := by
    intro pc ls H locs x hd h hP hD hS; cases h; exact RET (x_iret C hd) hP hD hS
  have B29 : ∀ (K4 : Int32 × Int32 → Option (Int32)) (ih4 : ∀ x, K4 x = some q → (match x with | (x1, x2) => ∀ (H : Heap) (locs : List Loc) (ls : Array Slot), va_P D vwCl (wS cI aS S) H → va_D A (wS cI aS S) → va_S A s.heap H locs → lv_has ls 3 [(0, .ref (aS 13)), (1, .int x1), (2, .int x2)] → W p l e (rmL 2) s m args below meth c H locs 0 0 Q (F0 m 4 ls []))) (x1 : Int32) (x2 : Int32), bfX1_firstToExpire_6_29 S K4 x1 x2 = some q → ∀ (H : Heap) (locs : List Loc) (ls : Array Slot), va_P D vwCl (wS cI aS S) H → va_D A (wS cI aS S) → va_S A s.heap H locs → lv_has ls 3 [(0, .ref (aS 13)), (1, .int x1), (2, .int x2)] → W p l e (rmL 2) s m args below meth c H locs 0 0 Q (F0 m 29 ls []) := by
    intro K4 ih4 x1 x2 h H locs ls hP hD hS hl
    refine x_iinc (v := (x2 + (1 : Int32))) (lv' := [(2, .int (x2 + (1 : Int32))), (0, .ref (aS 13)), (1, .int x1)]) C dX1_firstToExpire_29 hl (k := 2) rfl rfl (by decide) rfl (fun ls hl => ?_)
    refine x_goto (tgt := 4) C dX1_firstToExpire_32 (by decide) ?_
    exact ih4 _ h _ _ _ hP hD hS (lv_sub hl [1, 2, 0] rfl)
  have B4 : ∀ (n : Nat) (x : Int32 × Int32), iter (bfX1_firstToExpire_6_4 S) n x = some q → (match x with | (x1, x2) => ∀ (H : Heap) (locs : List Loc) (ls : Array Slot), va_P D vwCl (wS cI aS S) H → va_D A (wS cI aS S) → va_S A s.heap H locs → lv_has ls 3 [(0, .ref (aS 13)), (1, .int x1), (2, .int x2)] → W p l e (rmL 2) s m args below meth c H locs 0 0 Q (F0 m 4 ls [])) := by
    refine iter_ind (fun x : Int32 × Int32 => (match x with | (x1, x2) => ∀ (H : Heap) (locs : List Loc) (ls : Array Slot), va_P D vwCl (wS cI aS S) H → va_D A (wS cI aS S) → va_S A s.heap H locs → lv_has ls 3 [(0, .ref (aS 13)), (1, .int x1), (2, .int x2)] → W p l e (rmL 2) s m args below meth c H locs 0 0 Q (F0 m 4 ls []))) ?_
    intro K4 ih4 x h
    obtain ⟨x1, x2⟩ := x
    intro H locs ls hP hD hS hl
    refine x_iload_n C dX1_firstToExpire_4 rfl hl 2 rfl ?_
    refine x_aload_n C dX1_firstToExpire_5 rfl hl 0 rfl ?_
    refine x_callV (As := []) (n := 0) C (kS_size l D cI cS aS _ 6 (by decide)) (fun hh => nomatch hh) wm_X1_41 wi_X3_size we_X3_size wz_X3 wc_X3_size (by decide +kernel) rfl hP hD hS hA 13 1 rfl rfl rfl hl.1 dX1_firstToExpire_6 rfl (Nat.le_of_ble_eq_true rfl) ⟨Nat.le_of_ble_eq_true rfl, Nat.le_of_ble_eq_true rfl⟩ ⟨Nat.zero_le _, Nat.zero_le _⟩ (fun H locs hP hD hS => ?_)
    refine x_icmp_ge (tgt := 35) C h dX1_firstToExpire_9 (by decide) (fun h => ?_) (fun h => ?_)
    · refine x_iload_n C dX1_firstToExpire_35 rfl hl 1 rfl ?_
      exact RETh dX1_firstToExpire_36 h hP hD hS
    · refine x_aload_n C dX1_firstToExpire_12 rfl hl 0 rfl ?_
      refine x_iload_n C dX1_firstToExpire_13 rfl hl 2 rfl ?_
      refine x_iconst (v := (1 : Int32)) C dX1_firstToExpire_14 (by decide) ?_
      refine x_callV (As := [.int _, .int _]) (n := 2) C (kS_get l D cI cS aS _ 6 (by decide) _ _) (fun hh => nomatch hh) wm_X1_15 wi_X3_get we_X3_get wz_X3 wc_X3_get (by decide +kernel) rfl hP hD hS hA 13 1 rfl rfl rfl hl.1 dX1_firstToExpire_15 rfl (Nat.le_of_ble_eq_true rfl) ⟨Nat.le_of_ble_eq_true rfl, Nat.le_of_ble_eq_true rfl⟩ ⟨Nat.zero_le _, Nat.zero_le _⟩ (fun H locs hP hD hS => ?_)
      refine x_aload_n C dX1_firstToExpire_18 rfl hl 0 rfl ?_
      refine x_iload_n C dX1_firstToExpire_19 rfl hl 1 rfl ?_
      refine x_iconst (v := (1 : Int32)) C dX1_firstToExpire_20 (by decide) ?_
      refine x_callV (As := [.int _, .int _]) (n := 2) C (kS_get l D cI cS aS _ 6 (by decide) _ _) (fun hh => nomatch hh) wm_X1_15 wi_X3_get we_X3_get wz_X3 wc_X3_get (by decide +kernel) rfl hP hD hS hA 13 1 rfl rfl rfl hl.1 dX1_firstToExpire_21 rfl (Nat.le_of_ble_eq_true rfl) ⟨Nat.le_of_ble_eq_true rfl, Nat.le_of_ble_eq_true rfl⟩ ⟨Nat.zero_le _, Nat.zero_le _⟩ (fun H locs hP hD hS => ?_)
      refine x_icmp_ge (tgt := 29) C h dX1_firstToExpire_24 (by decide) (fun h => ?_) (fun h => ?_)
      · exact B29 K4 ih4 _ _ h _ _ _ hP hD hS hl
      · refine x_iload_n C dX1_firstToExpire_27 rfl hl 2 rfl ?_
        refine x_istore_n (lv' := [(1, .int x2), (0, .ref (aS 13)), (2, .int x2)]) C dX1_firstToExpire_28 rfl hl (by decide) rfl (fun ls hl => ?_)
        exact B29 K4 ih4 _ _ h _ _ _ hP hD hS (lv_sub hl [1, 0, 2] rfl)
  refine x_iconst (v := (0 : Int32)) C dX1_firstToExpire_0 (by decide) ?_
  refine x_istore_n (lv' := [(1, .int (0 : Int32)), (0, .ref (aS 13))]) C dX1_firstToExpire_1 rfl hl (by decide) rfl (fun ls hl => ?_)
  refine x_iconst (v := (1 : Int32)) C dX1_firstToExpire_2 (by decide) ?_
  refine x_istore_n (lv' := [(2, .int (1 : Int32)), (1, .int (0 : Int32)), (0, .ref (aS 13))]) C dX1_firstToExpire_3 rfl hl (by decide) rfl (fun ls hl => ?_)
  exact B4 FU _ h _ _ _ hP hD hS (lv_sub hl [2, 1, 0] rfl)
theorem dX1_nextInQueue_0 : decode cX1_nextInQueue 0 = .ok (.aload_n 0, 1) := by decide +kernel
theorem dX1_nextInQueue_1 : decode cX1_nextInQueue 1 = .ok (.getfield 21, 3) := by decide +kernel
theorem dX1_nextInQueue_4 : decode cX1_nextInQueue 4 = .ok (.invokevirtual 41, 3) := by decide +kernel
theorem dX1_nextInQueue_7 : decode cX1_nextInQueue 7 = .ok (.istore_n 1, 1) := by decide +kernel
theorem dX1_nextInQueue_8 : decode cX1_nextInQueue 8 = .ok (.aload_n 0, 1) := by decide +kernel
theorem dX1_nextInQueue_9 : decode cX1_nextInQueue 9 = .ok (.getfield 85, 3) := by decide +kernel
theorem dX1_nextInQueue_12 : decode cX1_nextInQueue 12 = .ok (.tableswitch 63 1 3 #[28, 32, 55], 28) := by decide +kernel
theorem dX1_nextInQueue_40 : decode cX1_nextInQueue 40 = .ok (.iload_n 1, 1) := by decide +kernel
theorem dX1_nextInQueue_41 : decode cX1_nextInQueue 41 = .ok (.iconst 1, 1) := by decide +kernel
theorem dX1_nextInQueue_42 : decode cX1_nextInQueue 42 = .ok (.isub, 1) := by decide +kernel
theorem dX1_nextInQueue_43 : decode cX1_nextInQueue 43 = .ok (.ireturn, 1) := by decide +kernel
theorem dX1_nextInQueue_44 : decode cX1_nextInQueue 44 = .ok (.iconst 2, 1) := by decide +kernel
theorem dX1_nextInQueue_45 : decode cX1_nextInQueue 45 = .ok (.iload_n 1, 1) := by decide +kernel
theorem dX1_nextInQueue_46 : decode cX1_nextInQueue 46 = .ok (.imul, 1) := by decide +kernel
theorem dX1_nextInQueue_47 : decode cX1_nextInQueue 47 = .ok (.aload_n 0, 1) := by decide +kernel
theorem dX1_nextInQueue_48 : decode cX1_nextInQueue 48 = .ok (.getfield 35, 3) := by decide +kernel
theorem dX1_nextInQueue_51 : decode cX1_nextInQueue 51 = .ok (.iconst 1, 1) := by decide +kernel
theorem dX1_nextInQueue_52 : decode cX1_nextInQueue 52 = .ok (.iconst 0, 1) := by decide +kernel
theorem dX1_nextInQueue_53 : decode cX1_nextInQueue 53 = .ok (.invokevirtual 15, 3) := by decide +kernel
theorem dX1_nextInQueue_56 : decode cX1_nextInQueue 56 = .ok (.if_icmp .le 9, 3) := by decide +kernel
theorem dX1_nextInQueue_59 : decode cX1_nextInQueue 59 = .ok (.iload_n 1, 1) := by decide +kernel
theorem dX1_nextInQueue_60 : decode cX1_nextInQueue 60 = .ok (.iconst 1, 1) := by decide +kernel
theorem dX1_nextInQueue_61 : decode cX1_nextInQueue 61 = .ok (.isub, 1) := by decide +kernel
theorem dX1_nextInQueue_62 : decode cX1_nextInQueue 62 = .ok (.goto 4, 3) := by decide +kernel
theorem dX1_nextInQueue_65 : decode cX1_nextInQueue 65 = .ok (.iconst 0, 1) := by decide +kernel
theorem dX1_nextInQueue_66 : decode cX1_nextInQueue 66 = .ok (.ireturn, 1) := by decide +kernel
theorem dX1_nextInQueue_67 : decode cX1_nextInQueue 67 = .ok (.aload_n 0, 1) := by decide +kernel
theorem dX1_nextInQueue_68 : decode cX1_nextInQueue 68 = .ok (.getfield 21, 3) := by decide +kernel
theorem dX1_nextInQueue_71 : decode cX1_nextInQueue 71 = .ok (.invokestatic 89, 3) := by decide +kernel
theorem dX1_nextInQueue_74 : decode cX1_nextInQueue 74 = .ok (.ireturn, 1) := by decide +kernel
theorem dX1_nextInQueue_75 : decode cX1_nextInQueue 75 = .ok (.iconst 0, 1) := by decide +kernel
theorem dX1_nextInQueue_76 : decode cX1_nextInQueue 76 = .ok (.ireturn, 1) := by decide +kernel
def bfX1_nextInQueue_66 (S : StS) (s0 : Int32) : Option (Int32) :=
  some s0
def fX1_nextInQueue (S : StS) : Option (Int32) :=
  nm ((ssize 6 S)) fun v3 => (if (S.2 11) = (1 : Int32) then some (v3 - (1 : Int32)) else (if (S.2 11) = (2 : Int32) then (if ((2 : Int32) * v3) ≤ (sget 3 S (1 : Int32) (0 : Int32)) then bfX1_nextInQueue_66 S  ((0 : Int32)) else bfX1_nextInQueue_66 S  ((v3 - (1 : Int32)))) else (if (S.2 11) = (3 : Int32) then ob (fX1_firstToExpire_6 S) fun u4 => some u4 else some (0 : Int32))))
set_option maxHeartbeats 4000000 in
set_option maxRecDepth 100000 in
theorem kX1_nextInQueue (l : Launch) (D : va_G) (cI cS : ClassId) (aS : Nat → Nat) (S : StS) {q : Int32} (h : fX1_nextInQueue S = some q) : Mc l D (tyL cI cS) false yX1_nextInQueue cX1_nextInQueue 2 (some .int) 3 [.ref (aS 0)] (wS cI aS S) (some (.int q)) (wS cI aS S) := by
  refine Mc_of RX1 (by decide +kernel) rfl wc_X1_nextInQueue (Nat.le_of_ble_eq_true rfl) ?_
  intro p e s m args below meth c A Q ls C hA hz hP hD hS hl RET
  have RETh : ∀ {pc : Nat} {ls : Array Slot} {H : Heap} {locs : List Loc} {x : Int32} , decode cX1_nextInQueue pc = .ok (.ireturn, 1) → some x = some q → va_P D vwCl (wS cI aS S) H → va_D A (wS cI aS S) → va_S A s.heap H locs → W p l e (rmL 3) s m args below meth c H locs 0 0 Q (F0 m pc ls [.int x]) := by
    intro pc ls H locs x hd h hP hD hS; cases h; exact RET (x_iret C hd) hP hD hS
  have B66 : ∀ (s0 : Int32), bfX1_nextInQueue_66 S s0 = some q → ∀ (H : Heap) (locs : List Loc) (ls : Array Slot), va_P D vwCl (wS cI aS S) H → va_D A (wS cI aS S) → va_S A s.heap H locs → lv_has ls 2 [] → W p l e (rmL 3) s m args below meth c H locs 0 0 Q (F0 m 66 ls [.int s0]) := by
    intro s0 h H locs ls hP hD hS hl
    exact RETh dX1_nextInQueue_66 h hP hD hS
  refine x_aload_n C dX1_nextInQueue_0 rfl hl 0 rfl ?_
  refine x_get C inX2 hP 0 rfl rfl 6 (by decide) wf_X1_21 rfl dX1_nextInQueue_1 ?_
  refine x_callV (As := []) (n := 0) C (kS_size l D cI cS aS _ 6 (by decide)) (fun hh => nomatch hh) wm_X1_41 wi_X3_size we_X3_size wz_X3 wc_X3_size (by decide +kernel) rfl hP hD hS hA 13 1 rfl rfl rfl hl.1 dX1_nextInQueue_4 rfl (Nat.le_of_ble_eq_true rfl) ⟨Nat.le_of_ble_eq_true rfl, Nat.le_of_ble_eq_true rfl⟩ ⟨Nat.zero_le _, Nat.zero_le _⟩ (fun H locs hP hD hS => ?_)
  refine x_nmi h (fun v3 h => ?_)
  refine x_istore_n (lv' := [(1, .int v3), (0, .ref (aS 0))]) C dX1_nextInQueue_7 rfl hl (by decide) rfl (fun ls hl => ?_)
  refine x_aload_n C dX1_nextInQueue_8 rfl hl 1 rfl ?_
  refine x_get C inX2 hP 0 rfl rfl 11 (by decide) wf_X1_85 rfl dX1_nextInQueue_9 ?_
  rcases x_ifc h with ⟨hc, h⟩ | ⟨hc1, h⟩
  · refine x_tabIn (tgt := 40) C dX1_nextInQueue_12 (by rw [hc]; decide) (by rw [hc]; decide) (by rw [hc]; rfl) (by decide) ?_
    refine x_iload_n C dX1_nextInQueue_40 rfl hl 0 rfl ?_
    refine x_iconst (v := (1 : Int32)) C dX1_nextInQueue_41 (by decide) ?_
    refine x_isub C dX1_nextInQueue_42 ?_
    exact RETh dX1_nextInQueue_43 h hP hD hS
  ·
    rcases x_ifc h with ⟨hc, h⟩ | ⟨hc2, h⟩
    · refine x_tabIn (tgt := 44) C dX1_nextInQueue_12 (by rw [hc]; decide) (by rw [hc]; decide) (by rw [hc]; rfl) (by decide) ?_
      refine x_iconst (v := (2 : Int32)) C dX1_nextInQueue_44 (by decide) ?_
      refine x_iload_n C dX1_nextInQueue_45 rfl hl 0 rfl ?_
      refine x_imul C dX1_nextInQueue_46 ?_
      refine x_aload_n C dX1_nextInQueue_47 rfl hl 1 rfl ?_
      refine x_get C inX2 hP 0 rfl rfl 3 (by decide) wf_X1_35 rfl dX1_nextInQueue_48 ?_
      refine x_iconst (v := (1 : Int32)) C dX1_nextInQueue_51 (by decide) ?_
      refine x_iconst (v := (0 : Int32)) C dX1_nextInQueue_52 (by decide) ?_
      refine x_callV (As := [.int _, .int _]) (n := 2) C (kS_get l D cI cS aS _ 3 (by decide) _ _) (fun hh => nomatch hh) wm_X1_15 wi_X3_get we_X3_get wz_X3 wc_X3_get (by decide +kernel) rfl hP hD hS hA 7 1 rfl rfl rfl hl.1 dX1_nextInQueue_53 rfl (Nat.le_of_ble_eq_true rfl) ⟨Nat.le_of_ble_eq_true rfl, Nat.le_of_ble_eq_true rfl⟩ ⟨Nat.zero_le _, Nat.zero_le _⟩ (fun H locs hP hD hS => ?_)
      refine x_icmp_le (tgt := 65) C h dX1_nextInQueue_56 (by decide) (fun h => ?_) (fun h => ?_)
      · refine x_iconst (v := (0 : Int32)) C dX1_nextInQueue_65 (by decide) ?_
        exact B66 _ h _ _ _ hP hD hS (lv_sub hl [] rfl)
      · refine x_iload_n C dX1_nextInQueue_59 rfl hl 0 rfl ?_
        refine x_iconst (v := (1 : Int32)) C dX1_nextInQueue_60 (by decide) ?_
        refine x_isub C dX1_nextInQueue_61 ?_
        refine x_goto (tgt := 66) C dX1_nextInQueue_62 (by decide) ?_
        exact B66 _ h _ _ _ hP hD hS (lv_sub hl [] rfl)
    ·
      rcases x_ifc h with ⟨hc, h⟩ | ⟨hc3, h⟩
      · refine x_tabIn (tgt := 67) C dX1_nextInQueue_12 (by rw [hc]; decide) (by rw [hc]; decide) (by rw [hc]; rfl) (by decide) ?_
        refine x_aload_n C dX1_nextInQueue_67 rfl hl 1 rfl ?_
        refine x_get C inX2 hP 0 rfl rfl 6 (by decide) wf_X1_21 rfl dX1_nextInQueue_68 ?_
        obtain ⟨u4, hu4, h⟩ := ob_some h
        refine x_callS (As := [.ref _]) (n := 1) C (kX1_firstToExpire_6 l D cI cS aS _ hu4) (fun hh => nomatch hh) wm_X1_89 wt_X1_firstToExpire wz_X1 wc_X1_firstToExpire (by decide +kernel) rfl hP hD hS hA hl.1 dX1_nextInQueue_71 rfl (Nat.le_of_ble_eq_true rfl) ⟨Nat.le_of_ble_eq_true rfl, Nat.le_of_ble_eq_true rfl⟩ ⟨Nat.zero_le _, Nat.zero_le _⟩ (fun H locs hP hD hS => ?_)
        exact RETh dX1_nextInQueue_74 h hP hD hS
      · refine x_switch (tgt := 75) C dX1_nextInQueue_12 (x_tabO1_3 hc1 hc2 hc3) (by decide) ?_
        refine x_iconst (v := (0 : Int32)) C dX1_nextInQueue_75 (by decide) ?_
        exact RETh dX1_nextInQueue_76 h hP hD hS
theorem dX1_takeAtFront_0 : decode cX1_takeAtFront 0 = .ok (.aload_n 0, 1) := by decide +kernel
theorem dX1_takeAtFront_1 : decode cX1_takeAtFront 1 = .ok (.aload_n 0, 1) := by decide +kernel
theorem dX1_takeAtFront_2 : decode cX1_takeAtFront 2 = .ok (.getfield 21, 3) := by decide +kernel
theorem dX1_takeAtFront_5 : decode cX1_takeAtFront 5 = .ok (.iload_n 2, 1) := by decide +kernel
theorem dX1_takeAtFront_6 : decode cX1_takeAtFront 6 = .ok (.invokestatic 74, 3) := by decide +kernel
theorem dX1_takeAtFront_9 : decode cX1_takeAtFront 9 = .ok (.ifCond .eq 15, 3) := by decide +kernel
theorem dX1_takeAtFront_12 : decode cX1_takeAtFront 12 = .ok (.aload_n 0, 1) := by decide +kernel
theorem dX1_takeAtFront_13 : decode cX1_takeAtFront 13 = .ok (.getfield 21, 3) := by decide +kernel
theorem dX1_takeAtFront_16 : decode cX1_takeAtFront 16 = .ok (.iload_n 2, 1) := by decide +kernel
theorem dX1_takeAtFront_17 : decode cX1_takeAtFront 17 = .ok (.iconst 0, 1) := by decide +kernel
theorem dX1_takeAtFront_18 : decode cX1_takeAtFront 18 = .ok (.invokevirtual 15, 3) := by decide +kernel
theorem dX1_takeAtFront_21 : decode cX1_takeAtFront 21 = .ok (.goto 5, 3) := by decide +kernel
theorem dX1_takeAtFront_24 : decode cX1_takeAtFront 24 = .ok (.bipush (-9), 2) := by decide +kernel
theorem dX1_takeAtFront_26 : decode cX1_takeAtFront 26 = .ok (.istore_n 3, 1) := by decide +kernel
theorem dX1_takeAtFront_27 : decode cX1_takeAtFront 27 = .ok (.iload_n 3, 1) := by decide +kernel
theorem dX1_takeAtFront_28 : decode cX1_takeAtFront 28 = .ok (.bipush (-9), 2) := by decide +kernel
theorem dX1_takeAtFront_30 : decode cX1_takeAtFront 30 = .ok (.if_icmp .ne 26, 3) := by decide +kernel
theorem dX1_takeAtFront_33 : decode cX1_takeAtFront 33 = .ok (.aload_n 0, 1) := by decide +kernel
theorem dX1_takeAtFront_34 : decode cX1_takeAtFront 34 = .ok (.getfield 59, 3) := by decide +kernel
theorem dX1_takeAtFront_37 : decode cX1_takeAtFront 37 = .ok (.iload_n 1, 1) := by decide +kernel
theorem dX1_takeAtFront_38 : decode cX1_takeAtFront 38 = .ok (.aload_n 0, 1) := by decide +kernel
theorem dX1_takeAtFront_39 : decode cX1_takeAtFront 39 = .ok (.getfield 21, 3) := by decide +kernel
theorem dX1_takeAtFront_42 : decode cX1_takeAtFront 42 = .ok (.iload_n 2, 1) := by decide +kernel
theorem dX1_takeAtFront_43 : decode cX1_takeAtFront 43 = .ok (.invokevirtual 81, 3) := by decide +kernel
theorem dX1_takeAtFront_46 : decode cX1_takeAtFront 46 = .ok (.aload_n 0, 1) := by decide +kernel
theorem dX1_takeAtFront_47 : decode cX1_takeAtFront 47 = .ok (.getfield 59, 3) := by decide +kernel
theorem dX1_takeAtFront_50 : decode cX1_takeAtFront 50 = .ok (.iload_n 1, 1) := by decide +kernel
theorem dX1_takeAtFront_51 : decode cX1_takeAtFront 51 = .ok (.iconst 5, 1) := by decide +kernel
theorem dX1_takeAtFront_52 : decode cX1_takeAtFront 52 = .ok (.iconst 2, 1) := by decide +kernel
theorem dX1_takeAtFront_53 : decode cX1_takeAtFront 53 = .ok (.invokevirtual 28, 3) := by decide +kernel
theorem dX1_takeAtFront_56 : decode cX1_takeAtFront 56 = .ok (.aload_n 0, 1) := by decide +kernel
theorem dX1_takeAtFront_57 : decode cX1_takeAtFront 57 = .ok (.getfield 21, 3) := by decide +kernel
theorem dX1_takeAtFront_60 : decode cX1_takeAtFront 60 = .ok (.iload_n 2, 1) := by decide +kernel
theorem dX1_takeAtFront_61 : decode cX1_takeAtFront 61 = .ok (.invokevirtual 70, 3) := by decide +kernel
theorem dX1_takeAtFront_64 : decode cX1_takeAtFront 64 = .ok (.iload_n 3, 1) := by decide +kernel
theorem dX1_takeAtFront_65 : decode cX1_takeAtFront 65 = .ok (.ireturn, 1) := by decide +kernel
def bfX1_takeAtFront_56 (p2 : Int32) (p3 : Int32) (x3 : Int32) (S : StS) : Option (Int32 × (StS)) :=
  nm (sdrop 6 S p3) fun S6 => some (x3, S6)
def bfX1_takeAtFront_26 (p2 : Int32) (p3 : Int32) (s0 : Int32) (S : StS) : Option (Int32 × (StS)) :=
  (if s0 = (-9 : Int32) then nm (scopyRow S p2 p3) fun S7 => nm (sput 7 S7 p2 (5 : Int32) (2 : Int32)) fun S8 => bfX1_takeAtFront_56 p2 p3  s0 S8 else bfX1_takeAtFront_56 p2 p3  s0 S)
def fX1_takeAtFront (p2 : Int32) (p3 : Int32) (S : StS) : Option (Int32 × (StS)) :=
  ob (fX1_isHopeless_6 p3 S) fun u9 => (if u9 = 0 then bfX1_takeAtFront_26 p2 p3  ((-9 : Int32)) S else bfX1_takeAtFront_26 p2 p3  ((sget 6 S p3 (0 : Int32))) S)
set_option maxHeartbeats 4000000 in
set_option maxRecDepth 100000 in
theorem kX1_takeAtFront (l : Launch) (D : va_G) (cI cS : ClassId) (aS : Nat → Nat) (p2 : Int32) (p3 : Int32) (S : StS) {q : Int32 × (StS)} (h : fX1_takeAtFront p2 p3 S = some q) : Mc l D (tyL cI cS) false yX1_takeAtFront cX1_takeAtFront 4 (some .int) 3 [.ref (aS 0), .int p2, .int p3] (wS cI aS S) (some (.int q.1)) (wS cI aS q.2) := by
  refine Mc_of RX1 (by decide +kernel) rfl wc_X1_takeAtFront (Nat.le_of_ble_eq_true rfl) ?_
  intro p e s m args below meth c A Q ls C hA hz hP hD hS hl RET
  have RETh : ∀ {pc : Nat} {ls : Array Slot} {H : Heap} {locs : List Loc} {x : Int32} {S1 : StS}, decode cX1_takeAtFront pc = .ok (.ireturn, 1) → some (x, S1) = some q → va_P D vwCl (wS cI aS S1) H → va_D A (wS cI aS S1) → va_S A s.heap H locs → W p l e (rmL 3) s m args below meth c H locs 0 0 Q (F0 m pc ls [.int x]) := by
    intro pc ls H locs x S1 hd h hP hD hS; cases h; exact RET (x_iret C hd) hP hD hS
  have B56 : ∀ (x3 : Int32) (S : StS), bfX1_takeAtFront_56 p2 p3 x3 S = some q → ∀ (H : Heap) (locs : List Loc) (ls : Array Slot), va_P D vwCl (wS cI aS S) H → va_D A (wS cI aS S) → va_S A s.heap H locs → lv_has ls 4 [(0, .ref (aS 0)), (2, .int p3), (3, .int x3)] → W p l e (rmL 3) s m args below meth c H locs 0 0 Q (F0 m 56 ls []) := by
    intro x3 S h H locs ls hP hD hS hl
    refine x_aload_n C dX1_takeAtFront_56 rfl hl 0 rfl ?_
    refine x_get C inX2 hP 0 rfl rfl 6 (by decide) wf_X1_21 rfl dX1_takeAtFront_57 ?_
    refine x_iload_n C dX1_takeAtFront_60 rfl hl 1 rfl ?_
    refine x_callV (As := [.int _]) (n := 1) C (kS_drop l D cI cS aS _ 6 (by decide) _) (fun hh => nomatch hh) wm_X1_70 wi_X3_drop we_X3_drop wz_X3 wc_X3_drop (by decide +kernel) rfl hP hD hS hA 13 1 rfl rfl rfl hl.1 dX1_takeAtFront_61 rfl (Nat.le_of_ble_eq_true rfl) ⟨Nat.le_of_ble_eq_true rfl, Nat.le_of_ble_eq_true rfl⟩ ⟨Nat.zero_le _, Nat.zero_le _⟩ (fun H locs hP hD hS => ?_)
    refine x_nmS (wS cI aS) h hP hD (fun S6 h hP hD => ?_)
    refine x_iload_n C dX1_takeAtFront_64 rfl hl 2 rfl ?_
    exact RETh dX1_takeAtFront_65 h hP hD hS
  have B26 : ∀ (s0 : Int32) (S : StS), bfX1_takeAtFront_26 p2 p3 s0 S = some q → ∀ (H : Heap) (locs : List Loc) (ls : Array Slot), va_P D vwCl (wS cI aS S) H → va_D A (wS cI aS S) → va_S A s.heap H locs → lv_has ls 4 [(0, .ref (aS 0)), (1, .int p2), (2, .int p3)] → W p l e (rmL 3) s m args below meth c H locs 0 0 Q (F0 m 26 ls [.int s0]) := by
    intro s0 S h H locs ls hP hD hS hl
    refine x_istore_n (lv' := [(3, .int s0), (0, .ref (aS 0)), (1, .int p2), (2, .int p3)]) C dX1_takeAtFront_26 rfl hl (by decide) rfl (fun ls hl => ?_)
    refine x_iload_n C dX1_takeAtFront_27 rfl hl 0 rfl ?_
    refine x_bipush (v := (-9 : Int32)) C dX1_takeAtFront_28 (by decide) ?_
    refine x_icmp_ne (tgt := 56) C h dX1_takeAtFront_30 (by decide) (fun h => ?_) (fun h => ?_)
    · exact B56 _ _ h _ _ _ hP hD hS (lv_sub hl [1, 3, 0] rfl)
    · refine x_aload_n C dX1_takeAtFront_33 rfl hl 1 rfl ?_
      refine x_get C inX2 hP 0 rfl rfl 7 (by decide) wf_X1_59 rfl dX1_takeAtFront_34 ?_
      refine x_iload_n C dX1_takeAtFront_37 rfl hl 2 rfl ?_
      refine x_aload_n C dX1_takeAtFront_38 rfl hl 1 rfl ?_
      refine x_get C inX2 hP 0 rfl rfl 6 (by decide) wf_X1_21 rfl dX1_takeAtFront_39 ?_
      refine x_iload_n C dX1_takeAtFront_42 rfl hl 3 rfl ?_
      refine x_callV (As := [.int _, .ref _, .int _]) (n := 3) C (kS_copyRow l D cI cS aS _ _ _) (fun hh => nomatch hh) wm_X1_81 wi_X3_copyRow we_X3_copyRow wz_X3 wc_X3_copyRow (by decide +kernel) rfl hP hD hS hA 15 1 rfl rfl rfl hl.1 dX1_takeAtFront_43 rfl (Nat.le_of_ble_eq_true rfl) ⟨Nat.le_of_ble_eq_true rfl, Nat.le_of_ble_eq_true rfl⟩ ⟨Nat.zero_le _, Nat.zero_le _⟩ (fun H locs hP hD hS => ?_)
      refine x_nmS (wS cI aS) h hP hD (fun S7 h hP hD => ?_)
      refine x_aload_n C dX1_takeAtFront_46 rfl hl 1 rfl ?_
      refine x_get C inX2 hP 0 rfl rfl 7 (by decide) wf_X1_59 rfl dX1_takeAtFront_47 ?_
      refine x_iload_n C dX1_takeAtFront_50 rfl hl 2 rfl ?_
      refine x_iconst (v := (5 : Int32)) C dX1_takeAtFront_51 (by decide) ?_
      refine x_iconst (v := (2 : Int32)) C dX1_takeAtFront_52 (by decide) ?_
      refine x_callV (As := [.int _, .int _, .int _]) (n := 3) C (kS_put l D cI cS aS _ 7 (by decide) _ _ _) (fun hh => nomatch hh) wm_X1_28 wi_X3_put we_X3_put wz_X3 wc_X3_put (by decide +kernel) rfl hP hD hS hA 15 1 rfl rfl rfl hl.1 dX1_takeAtFront_53 rfl (Nat.le_of_ble_eq_true rfl) ⟨Nat.le_of_ble_eq_true rfl, Nat.le_of_ble_eq_true rfl⟩ ⟨Nat.zero_le _, Nat.zero_le _⟩ (fun H locs hP hD hS => ?_)
      refine x_nmS (wS cI aS) h hP hD (fun S8 h hP hD => ?_)
      exact B56 _ _ h _ _ _ hP hD hS (lv_sub hl [1, 3, 0] rfl)
  refine x_aload_n C dX1_takeAtFront_0 rfl hl 0 rfl ?_
  refine x_aload_n C dX1_takeAtFront_1 rfl hl 0 rfl ?_
  refine x_get C inX2 hP 0 rfl rfl 6 (by decide) wf_X1_21 rfl dX1_takeAtFront_2 ?_
  refine x_iload_n C dX1_takeAtFront_5 rfl hl 2 rfl ?_
  obtain ⟨u9, hu9, h⟩ := ob_some h
  refine x_callS (As := [.ref _, .ref _, .int _]) (n := 3) C (kX1_isHopeless_6 l D cI cS aS _ _ hu9) (fun hh => nomatch hh) wm_X1_74 wt_X1_isHopeless wz_X1 wc_X1_isHopeless (by decide +kernel) rfl hP hD hS hA hl.1 dX1_takeAtFront_6 rfl (Nat.le_of_ble_eq_true rfl) ⟨Nat.le_of_ble_eq_true rfl, Nat.le_of_ble_eq_true rfl⟩ ⟨Nat.zero_le _, Nat.zero_le _⟩ (fun H locs hP hD hS => ?_)
  refine x_if_eq (tgt := 24) C h dX1_takeAtFront_9 (by decide) (fun h => ?_) (fun h => ?_)
  · refine x_bipush (v := (-9 : Int32)) C dX1_takeAtFront_24 (by decide) ?_
    exact B26 _ _ h _ _ _ hP hD hS hl
  · refine x_aload_n C dX1_takeAtFront_12 rfl hl 0 rfl ?_
    refine x_get C inX2 hP 0 rfl rfl 6 (by decide) wf_X1_21 rfl dX1_takeAtFront_13 ?_
    refine x_iload_n C dX1_takeAtFront_16 rfl hl 2 rfl ?_
    refine x_iconst (v := (0 : Int32)) C dX1_takeAtFront_17 (by decide) ?_
    refine x_callV (As := [.int _, .int _]) (n := 2) C (kS_get l D cI cS aS _ 6 (by decide) _ _) (fun hh => nomatch hh) wm_X1_15 wi_X3_get we_X3_get wz_X3 wc_X3_get (by decide +kernel) rfl hP hD hS hA 13 1 rfl rfl rfl hl.1 dX1_takeAtFront_18 rfl (Nat.le_of_ble_eq_true rfl) ⟨Nat.le_of_ble_eq_true rfl, Nat.le_of_ble_eq_true rfl⟩ ⟨Nat.zero_le _, Nat.zero_le _⟩ (fun H locs hP hD hS => ?_)
    refine x_goto (tgt := 26) C dX1_takeAtFront_21 (by decide) ?_
    exact B26 _ _ h _ _ _ hP hD hS hl
theorem dX1_fillFrontWorkers_0 : decode cX1_fillFrontWorkers 0 = .ok (.aload_n 0, 1) := by decide +kernel
theorem dX1_fillFrontWorkers_1 : decode cX1_fillFrontWorkers 1 = .ok (.getfield 35, 3) := by decide +kernel
theorem dX1_fillFrontWorkers_4 : decode cX1_fillFrontWorkers 4 = .ok (.iconst 0, 1) := by decide +kernel
theorem dX1_fillFrontWorkers_5 : decode cX1_fillFrontWorkers 5 = .ok (.iconst 0, 1) := by decide +kernel
theorem dX1_fillFrontWorkers_6 : decode cX1_fillFrontWorkers 6 = .ok (.invokevirtual 15, 3) := by decide +kernel
theorem dX1_fillFrontWorkers_9 : decode cX1_fillFrontWorkers 9 = .ok (.istore_n 1, 1) := by decide +kernel
theorem dX1_fillFrontWorkers_10 : decode cX1_fillFrontWorkers 10 = .ok (.iconst 0, 1) := by decide +kernel
theorem dX1_fillFrontWorkers_11 : decode cX1_fillFrontWorkers 11 = .ok (.istore_n 2, 1) := by decide +kernel
theorem dX1_fillFrontWorkers_12 : decode cX1_fillFrontWorkers 12 = .ok (.iload_n 2, 1) := by decide +kernel
theorem dX1_fillFrontWorkers_13 : decode cX1_fillFrontWorkers 13 = .ok (.iload_n 1, 1) := by decide +kernel
theorem dX1_fillFrontWorkers_14 : decode cX1_fillFrontWorkers 14 = .ok (.if_icmp .ge 56, 3) := by decide +kernel
theorem dX1_fillFrontWorkers_17 : decode cX1_fillFrontWorkers 17 = .ok (.aload_n 0, 1) := by decide +kernel
theorem dX1_fillFrontWorkers_18 : decode cX1_fillFrontWorkers 18 = .ok (.getfield 21, 3) := by decide +kernel
theorem dX1_fillFrontWorkers_21 : decode cX1_fillFrontWorkers 21 = .ok (.invokevirtual 41, 3) := by decide +kernel
theorem dX1_fillFrontWorkers_24 : decode cX1_fillFrontWorkers 24 = .ok (.istore_n 3, 1) := by decide +kernel
theorem dX1_fillFrontWorkers_25 : decode cX1_fillFrontWorkers 25 = .ok (.iload_n 3, 1) := by decide +kernel
theorem dX1_fillFrontWorkers_26 : decode cX1_fillFrontWorkers 26 = .ok (.ifCond .le 38, 3) := by decide +kernel
theorem dX1_fillFrontWorkers_29 : decode cX1_fillFrontWorkers 29 = .ok (.aload_n 0, 1) := by decide +kernel
theorem dX1_fillFrontWorkers_30 : decode cX1_fillFrontWorkers 30 = .ok (.getfield 59, 3) := by decide +kernel
theorem dX1_fillFrontWorkers_33 : decode cX1_fillFrontWorkers 33 = .ok (.iload_n 2, 1) := by decide +kernel
theorem dX1_fillFrontWorkers_34 : decode cX1_fillFrontWorkers 34 = .ok (.iconst 0, 1) := by decide +kernel
theorem dX1_fillFrontWorkers_35 : decode cX1_fillFrontWorkers 35 = .ok (.invokevirtual 15, 3) := by decide +kernel
theorem dX1_fillFrontWorkers_38 : decode cX1_fillFrontWorkers 38 = .ok (.bipush (-9), 2) := by decide +kernel
theorem dX1_fillFrontWorkers_40 : decode cX1_fillFrontWorkers 40 = .ok (.if_icmp .ne 24, 3) := by decide +kernel
theorem dX1_fillFrontWorkers_43 : decode cX1_fillFrontWorkers 43 = .ok (.aload_n 0, 1) := by decide +kernel
theorem dX1_fillFrontWorkers_44 : decode cX1_fillFrontWorkers 44 = .ok (.aload_n 0, 1) := by decide +kernel
theorem dX1_fillFrontWorkers_45 : decode cX1_fillFrontWorkers 45 = .ok (.iload_n 2, 1) := by decide +kernel
theorem dX1_fillFrontWorkers_46 : decode cX1_fillFrontWorkers 46 = .ok (.aload_n 0, 1) := by decide +kernel
theorem dX1_fillFrontWorkers_47 : decode cX1_fillFrontWorkers 47 = .ok (.invokestatic 62, 3) := by decide +kernel
theorem dX1_fillFrontWorkers_50 : decode cX1_fillFrontWorkers 50 = .ok (.invokestatic 66, 3) := by decide +kernel
theorem dX1_fillFrontWorkers_53 : decode cX1_fillFrontWorkers 53 = .ok (.bipush 6, 2) := by decide +kernel
theorem dX1_fillFrontWorkers_55 : decode cX1_fillFrontWorkers 55 = .ok (.invokestatic 53, 3) := by decide +kernel
theorem dX1_fillFrontWorkers_58 : decode cX1_fillFrontWorkers 58 = .ok (.iinc 3 (-1), 3) := by decide +kernel
theorem dX1_fillFrontWorkers_61 : decode cX1_fillFrontWorkers 61 = .ok (.goto (-36), 3) := by decide +kernel
theorem dX1_fillFrontWorkers_64 : decode cX1_fillFrontWorkers 64 = .ok (.iinc 2 1, 3) := by decide +kernel
theorem dX1_fillFrontWorkers_67 : decode cX1_fillFrontWorkers 67 = .ok (.goto (-55), 3) := by decide +kernel
theorem dX1_fillFrontWorkers_70 : decode cX1_fillFrontWorkers 70 = .ok (.return_, 1) := by decide +kernel
def bfX1_fillFrontWorkers_64  (K12 : Int32 × Int32 × (StS) → Option (StS)) (x1 : Int32) (x2 : Int32) (S : StS) : Option (StS) :=
  K12 (x1, (x2 + (1 : Int32)), S)
def bfX1_fillFrontWorkers_25  (K12 : Int32 × Int32 × (StS) → Option (StS)) (K25 : Int32 × Int32 × Int32 × (StS) → Option (StS)) (x : Int32 × Int32 × Int32 × (StS)) : Option (StS) :=
  match x with
  | (x1, x2, x3, S) => (if x3 ≤ 0 then bfX1_fillFrontWorkers_64  K12 x1 x2 S else (if (sget 7 S x2 (0 : Int32)) = (-9 : Int32) then ob (fX1_nextInQueue S) fun u6 => ob (fX1_takeAtFront x2 u6 S) fun u7 => ob (fX0_fail u7.1 (6 : Int32) u7.2) fun u8 => K25 (x1, x2, (x3 + (-1 : Int32)), u8) else bfX1_fillFrontWorkers_64  K12 x1 x2 S))
def bfX1_fillFrontWorkers_12  (K12 : Int32 × Int32 × (StS) → Option (StS)) (x : Int32 × Int32 × (StS)) : Option (StS) :=
  match x with
  | (x1, x2, S) => (if x1 ≤ x2 then some S else nm ((ssize 6 S)) fun v9 => iter (bfX1_fillFrontWorkers_25  K12) FU (x1, x2, v9, S))
def fX1_fillFrontWorkers  (S : StS) : Option (StS) :=
  nm ((sget 3 S (0 : Int32) (0 : Int32))) fun v10 => iter (bfX1_fillFrontWorkers_12) FU (v10, (0 : Int32), S)
set_option maxHeartbeats 4000000 in
set_option maxRecDepth 100000 in
theorem kX1_fillFrontWorkers (l : Launch) (D : va_G) (cI cS : ClassId) (aS : Nat → Nat)  (S : StS) {q : StS} (h : fX1_fillFrontWorkers  S = some q) : Mc l D (tyL cI cS) false yX1_fillFrontWorkers cX1_fillFrontWorkers 4 none 4 [.ref (aS 0)] (wS cI aS S) none (wS cI aS q) := by
  refine Mc_of RX1 (by decide +kernel) rfl wc_X1_fillFrontWorkers (Nat.le_of_ble_eq_true rfl) ?_
  intro p e s m args below meth c A Q ls C hA hz hP hD hS hl RET
  have RETh : ∀ {pc : Nat} {ls : Array Slot} {H : Heap} {locs : List Loc} {S1 : StS}, decode cX1_fillFrontWorkers pc = .ok (.return_, 1) → some S1 = some q → va_P D vwCl (wS cI aS S1) H → va_D A (wS cI aS S1) → va_S A s.heap H locs → W p l e (rmL 4) s m args below meth c H locs 0 0 Q (F0 m pc ls []) := by
    intro pc ls H locs S1 hd h hP hD hS; cases h; exact RET (x_vret C hd) hP hD hS
  have B64 : ∀ (K12 : Int32 × Int32 × (StS) → Option (StS)) (ih12 : ∀ x, K12 x = some q → (match x with | (x1, x2, S) => ∀ (H : Heap) (locs : List Loc) (ls : Array Slot), va_P D vwCl (wS cI aS S) H → va_D A (wS cI aS S) → va_S A s.heap H locs → lv_has ls 4 [(0, .ref (aS 0)), (1, .int x1), (2, .int x2)] → W p l e (rmL 4) s m args below meth c H locs 0 0 Q (F0 m 12 ls []))) (x1 : Int32) (x2 : Int32) (S : StS), bfX1_fillFrontWorkers_64 K12 x1 x2 S = some q → ∀ (H : Heap) (locs : List Loc) (ls : Array Slot), va_P D vwCl (wS cI aS S) H → va_D A (wS cI aS S) → va_S A s.heap H locs → lv_has ls 4 [(0, .ref (aS 0)), (1, .int x1), (2, .int x2)] → W p l e (rmL 4) s m args below meth c H locs 0 0 Q (F0 m 64 ls []) := by
    intro K12 ih12 x1 x2 S h H locs ls hP hD hS hl
    refine x_iinc (v := (x2 + (1 : Int32))) (lv' := [(2, .int (x2 + (1 : Int32))), (0, .ref (aS 0)), (1, .int x1)]) C dX1_fillFrontWorkers_64 hl (k := 2) rfl rfl (by decide) rfl (fun ls hl => ?_)
    refine x_goto (tgt := 12) C dX1_fillFrontWorkers_67 (by decide) ?_
    exact ih12 _ h _ _ _ hP hD hS (lv_sub hl [1, 2, 0] rfl)
  have B25 : ∀ (K12 : Int32 × Int32 × (StS) → Option (StS)) (ih12 : ∀ x, K12 x = some q → (match x with | (x1, x2, S) => ∀ (H : Heap) (locs : List Loc) (ls : Array Slot), va_P D vwCl (wS cI aS S) H → va_D A (wS cI aS S) → va_S A s.heap H locs → lv_has ls 4 [(0, .ref (aS 0)), (1, .int x1), (2, .int x2)] → W p l e (rmL 4) s m args below meth c H locs 0 0 Q (F0 m 12 ls []))) (n : Nat) (x : Int32 × Int32 × Int32 × (StS)), iter (bfX1_fillFrontWorkers_25 K12) n x = some q → (match x with | (x1, x2, x3, S) => ∀ (H : Heap) (locs : List Loc) (ls : Array Slot), va_P D vwCl (wS cI aS S) H → va_D A (wS cI aS S) → va_S A s.heap H locs → lv_has ls 4 [(0, .ref (aS 0)), (1, .int x1), (2, .int x2), (3, .int x3)] → W p l e (rmL 4) s m args below meth c H locs 0 0 Q (F0 m 25 ls [])) := by
    intro K12 ih12
    refine iter_ind (fun x : Int32 × Int32 × Int32 × (StS) => (match x with | (x1, x2, x3, S) => ∀ (H : Heap) (locs : List Loc) (ls : Array Slot), va_P D vwCl (wS cI aS S) H → va_D A (wS cI aS S) → va_S A s.heap H locs → lv_has ls 4 [(0, .ref (aS 0)), (1, .int x1), (2, .int x2), (3, .int x3)] → W p l e (rmL 4) s m args below meth c H locs 0 0 Q (F0 m 25 ls []))) ?_
    intro K25 ih25 x h
    obtain ⟨x1, x2, x3, S⟩ := x
    intro H locs ls hP hD hS hl
    refine x_iload_n C dX1_fillFrontWorkers_25 rfl hl 3 rfl ?_
    refine x_if_le (tgt := 64) C h dX1_fillFrontWorkers_26 (by decide) (fun h => ?_) (fun h => ?_)
    · exact B64 K12 ih12 _ _ _ h _ _ _ hP hD hS (lv_sub hl [0, 1, 2] rfl)
    · refine x_aload_n C dX1_fillFrontWorkers_29 rfl hl 0 rfl ?_
      refine x_get C inX2 hP 0 rfl rfl 7 (by decide) wf_X1_59 rfl dX1_fillFrontWorkers_30 ?_
      refine x_iload_n C dX1_fillFrontWorkers_33 rfl hl 2 rfl ?_
      refine x_iconst (v := (0 : Int32)) C dX1_fillFrontWorkers_34 (by decide) ?_
      refine x_callV (As := [.int _, .int _]) (n := 2) C (kS_get l D cI cS aS _ 7 (by decide) _ _) (fun hh => nomatch hh) wm_X1_15 wi_X3_get we_X3_get wz_X3 wc_X3_get (by decide +kernel) rfl hP hD hS hA 15 1 rfl rfl rfl hl.1 dX1_fillFrontWorkers_35 rfl (Nat.le_of_ble_eq_true rfl) ⟨Nat.le_of_ble_eq_true rfl, Nat.le_of_ble_eq_true rfl⟩ ⟨Nat.zero_le _, Nat.zero_le _⟩ (fun H locs hP hD hS => ?_)
      refine x_bipush (v := (-9 : Int32)) C dX1_fillFrontWorkers_38 (by decide) ?_
      refine x_icmp_ne (tgt := 64) C h dX1_fillFrontWorkers_40 (by decide) (fun h => ?_) (fun h => ?_)
      · exact B64 K12 ih12 _ _ _ h _ _ _ hP hD hS (lv_sub hl [0, 1, 2] rfl)
      · refine x_aload_n C dX1_fillFrontWorkers_43 rfl hl 0 rfl ?_
        refine x_aload_n C dX1_fillFrontWorkers_44 rfl hl 0 rfl ?_
        refine x_iload_n C dX1_fillFrontWorkers_45 rfl hl 2 rfl ?_
        refine x_aload_n C dX1_fillFrontWorkers_46 rfl hl 0 rfl ?_
        obtain ⟨u6, hu6, h⟩ := ob_some h
        refine x_callS (As := [.ref _]) (n := 1) C (kX1_nextInQueue l D cI cS aS _ hu6) (fun hh => nomatch hh) wm_X1_62 wt_X1_nextInQueue wz_X1 wc_X1_nextInQueue (by decide +kernel) rfl hP hD hS hA hl.1 dX1_fillFrontWorkers_47 rfl (Nat.le_of_ble_eq_true rfl) ⟨Nat.le_of_ble_eq_true rfl, Nat.le_of_ble_eq_true rfl⟩ ⟨Nat.zero_le _, Nat.zero_le _⟩ (fun H locs hP hD hS => ?_)
        obtain ⟨u7, hu7, h⟩ := ob_some h
        refine x_callS (As := [.ref _, .int _, .int _]) (n := 3) C (kX1_takeAtFront l D cI cS aS _ _ _ hu7) (fun hh => nomatch hh) wm_X1_66 wt_X1_takeAtFront wz_X1 wc_X1_takeAtFront (by decide +kernel) rfl hP hD hS hA hl.1 dX1_fillFrontWorkers_50 rfl (Nat.le_of_ble_eq_true rfl) ⟨Nat.le_of_ble_eq_true rfl, Nat.le_of_ble_eq_true rfl⟩ ⟨Nat.zero_le _, Nat.zero_le _⟩ (fun H locs hP hD hS => ?_)
        refine x_bipush (v := (6 : Int32)) C dX1_fillFrontWorkers_53 (by decide) ?_
        obtain ⟨u8, hu8, h⟩ := ob_some h
        refine x_callS (As := [.ref _, .int _, .int _]) (n := 3) C (kX0_fail l D cI cS aS _ _ _ hu8) (fun hh => nomatch hh) wm_X1_53 wt_X0_fail wz_X0 wc_X0_fail (by decide +kernel) rfl hP hD hS hA hl.1 dX1_fillFrontWorkers_55 rfl (Nat.le_of_ble_eq_true rfl) ⟨Nat.le_of_ble_eq_true rfl, Nat.le_of_ble_eq_true rfl⟩ ⟨Nat.zero_le _, Nat.zero_le _⟩ (fun H locs hP hD hS => ?_)
        refine x_iinc (v := (x3 + (-1 : Int32))) (lv' := [(3, .int (x3 + (-1 : Int32))), (0, .ref (aS 0)), (1, .int x1), (2, .int x2)]) C dX1_fillFrontWorkers_58 hl (k := 3) rfl rfl (by decide) rfl (fun ls hl => ?_)
        refine x_goto (tgt := 25) C dX1_fillFrontWorkers_61 (by decide) ?_
        exact ih25 _ h _ _ _ hP hD hS (lv_sub hl [1, 2, 3, 0] rfl)
  have B12 : ∀ (n : Nat) (x : Int32 × Int32 × (StS)), iter (bfX1_fillFrontWorkers_12) n x = some q → (match x with | (x1, x2, S) => ∀ (H : Heap) (locs : List Loc) (ls : Array Slot), va_P D vwCl (wS cI aS S) H → va_D A (wS cI aS S) → va_S A s.heap H locs → lv_has ls 4 [(0, .ref (aS 0)), (1, .int x1), (2, .int x2)] → W p l e (rmL 4) s m args below meth c H locs 0 0 Q (F0 m 12 ls [])) := by
    refine iter_ind (fun x : Int32 × Int32 × (StS) => (match x with | (x1, x2, S) => ∀ (H : Heap) (locs : List Loc) (ls : Array Slot), va_P D vwCl (wS cI aS S) H → va_D A (wS cI aS S) → va_S A s.heap H locs → lv_has ls 4 [(0, .ref (aS 0)), (1, .int x1), (2, .int x2)] → W p l e (rmL 4) s m args below meth c H locs 0 0 Q (F0 m 12 ls []))) ?_
    intro K12 ih12 x h
    obtain ⟨x1, x2, S⟩ := x
    intro H locs ls hP hD hS hl
    refine x_iload_n C dX1_fillFrontWorkers_12 rfl hl 2 rfl ?_
    refine x_iload_n C dX1_fillFrontWorkers_13 rfl hl 1 rfl ?_
    refine x_icmp_ge (tgt := 70) C h dX1_fillFrontWorkers_14 (by decide) (fun h => ?_) (fun h => ?_)
    · exact RETh dX1_fillFrontWorkers_70 h hP hD hS
    · refine x_aload_n C dX1_fillFrontWorkers_17 rfl hl 0 rfl ?_
      refine x_get C inX2 hP 0 rfl rfl 6 (by decide) wf_X1_21 rfl dX1_fillFrontWorkers_18 ?_
      refine x_callV (As := []) (n := 0) C (kS_size l D cI cS aS _ 6 (by decide)) (fun hh => nomatch hh) wm_X1_41 wi_X3_size we_X3_size wz_X3 wc_X3_size (by decide +kernel) rfl hP hD hS hA 13 1 rfl rfl rfl hl.1 dX1_fillFrontWorkers_21 rfl (Nat.le_of_ble_eq_true rfl) ⟨Nat.le_of_ble_eq_true rfl, Nat.le_of_ble_eq_true rfl⟩ ⟨Nat.zero_le _, Nat.zero_le _⟩ (fun H locs hP hD hS => ?_)
      refine x_nmi h (fun v9 h => ?_)
      refine x_istore_n (lv' := [(3, .int v9), (0, .ref (aS 0)), (1, .int x1), (2, .int x2)]) C dX1_fillFrontWorkers_24 rfl hl (by decide) rfl (fun ls hl => ?_)
      exact B25 K12 ih12 FU _ h _ _ _ hP hD hS (lv_sub hl [1, 2, 3, 0] rfl)
  refine x_aload_n C dX1_fillFrontWorkers_0 rfl hl 0 rfl ?_
  refine x_get C inX2 hP 0 rfl rfl 3 (by decide) wf_X1_35 rfl dX1_fillFrontWorkers_1 ?_
  refine x_iconst (v := (0 : Int32)) C dX1_fillFrontWorkers_4 (by decide) ?_
  refine x_iconst (v := (0 : Int32)) C dX1_fillFrontWorkers_5 (by decide) ?_
  refine x_callV (As := [.int _, .int _]) (n := 2) C (kS_get l D cI cS aS _ 3 (by decide) _ _) (fun hh => nomatch hh) wm_X1_15 wi_X3_get we_X3_get wz_X3 wc_X3_get (by decide +kernel) rfl hP hD hS hA 7 1 rfl rfl rfl hl.1 dX1_fillFrontWorkers_6 rfl (Nat.le_of_ble_eq_true rfl) ⟨Nat.le_of_ble_eq_true rfl, Nat.le_of_ble_eq_true rfl⟩ ⟨Nat.zero_le _, Nat.zero_le _⟩ (fun H locs hP hD hS => ?_)
  refine x_nmi h (fun v10 h => ?_)
  refine x_istore_n (lv' := [(1, .int v10), (0, .ref (aS 0))]) C dX1_fillFrontWorkers_9 rfl hl (by decide) rfl (fun ls hl => ?_)
  refine x_iconst (v := (0 : Int32)) C dX1_fillFrontWorkers_10 (by decide) ?_
  refine x_istore_n (lv' := [(2, .int (0 : Int32)), (1, .int v10), (0, .ref (aS 0))]) C dX1_fillFrontWorkers_11 rfl hl (by decide) rfl (fun ls hl => ?_)
  exact B12 FU _ h _ _ _ hP hD hS (lv_sub hl [2, 1, 0] rfl)
theorem dX1_work_0 : decode cX1_work 0 = .ok (.iconst 0, 1) := by decide +kernel
theorem dX1_work_1 : decode cX1_work 1 = .ok (.istore_n 1, 1) := by decide +kernel
theorem dX1_work_2 : decode cX1_work 2 = .ok (.iload_n 1, 1) := by decide +kernel
theorem dX1_work_3 : decode cX1_work 3 = .ok (.iconst 4, 1) := by decide +kernel
theorem dX1_work_4 : decode cX1_work 4 = .ok (.if_icmp .ge 82, 3) := by decide +kernel
theorem dX1_work_7 : decode cX1_work 7 = .ok (.aload_n 0, 1) := by decide +kernel
theorem dX1_work_8 : decode cX1_work 8 = .ok (.getfield 59, 3) := by decide +kernel
theorem dX1_work_11 : decode cX1_work 11 = .ok (.iload_n 1, 1) := by decide +kernel
theorem dX1_work_12 : decode cX1_work 12 = .ok (.iconst 5, 1) := by decide +kernel
theorem dX1_work_13 : decode cX1_work 13 = .ok (.invokevirtual 15, 3) := by decide +kernel
theorem dX1_work_16 : decode cX1_work 16 = .ok (.istore_n 2, 1) := by decide +kernel
theorem dX1_work_17 : decode cX1_work 17 = .ok (.aload_n 0, 1) := by decide +kernel
theorem dX1_work_18 : decode cX1_work 18 = .ok (.getfield 59, 3) := by decide +kernel
theorem dX1_work_21 : decode cX1_work 21 = .ok (.iload_n 1, 1) := by decide +kernel
theorem dX1_work_22 : decode cX1_work 22 = .ok (.iconst 0, 1) := by decide +kernel
theorem dX1_work_23 : decode cX1_work 23 = .ok (.invokevirtual 15, 3) := by decide +kernel
theorem dX1_work_26 : decode cX1_work 26 = .ok (.bipush (-9), 2) := by decide +kernel
theorem dX1_work_28 : decode cX1_work 28 = .ok (.if_icmp .eq 7, 3) := by decide +kernel
theorem dX1_work_31 : decode cX1_work 31 = .ok (.iconst 1, 1) := by decide +kernel
theorem dX1_work_32 : decode cX1_work 32 = .ok (.goto 4, 3) := by decide +kernel
theorem dX1_work_35 : decode cX1_work 35 = .ok (.iconst 0, 1) := by decide +kernel
theorem dX1_work_36 : decode cX1_work 36 = .ok (.istore_n 3, 1) := by decide +kernel
theorem dX1_work_37 : decode cX1_work 37 = .ok (.iload_n 3, 1) := by decide +kernel
theorem dX1_work_38 : decode cX1_work 38 = .ok (.ifCond .eq 42, 3) := by decide +kernel
theorem dX1_work_41 : decode cX1_work 41 = .ok (.iload_n 2, 1) := by decide +kernel
theorem dX1_work_42 : decode cX1_work 42 = .ok (.iconst 2, 1) := by decide +kernel
theorem dX1_work_43 : decode cX1_work 43 = .ok (.if_icmp .eq 8, 3) := by decide +kernel
theorem dX1_work_46 : decode cX1_work 46 = .ok (.iload_n 2, 1) := by decide +kernel
theorem dX1_work_47 : decode cX1_work 47 = .ok (.iconst 4, 1) := by decide +kernel
theorem dX1_work_48 : decode cX1_work 48 = .ok (.if_icmp .ne 32, 3) := by decide +kernel
theorem dX1_work_51 : decode cX1_work 51 = .ok (.aload_n 0, 1) := by decide +kernel
theorem dX1_work_52 : decode cX1_work 52 = .ok (.getfield 59, 3) := by decide +kernel
theorem dX1_work_55 : decode cX1_work 55 = .ok (.iload_n 1, 1) := by decide +kernel
theorem dX1_work_56 : decode cX1_work 56 = .ok (.iload_n 2, 1) := by decide +kernel
theorem dX1_work_57 : decode cX1_work 57 = .ok (.iconst 2, 1) := by decide +kernel
theorem dX1_work_58 : decode cX1_work 58 = .ok (.if_icmp .ne 7, 3) := by decide +kernel
theorem dX1_work_61 : decode cX1_work 61 = .ok (.iconst 2, 1) := by decide +kernel
theorem dX1_work_62 : decode cX1_work 62 = .ok (.goto 4, 3) := by decide +kernel
theorem dX1_work_65 : decode cX1_work 65 = .ok (.iconst 3, 1) := by decide +kernel
theorem dX1_work_66 : decode cX1_work 66 = .ok (.iconst (-1), 1) := by decide +kernel
theorem dX1_work_67 : decode cX1_work 67 = .ok (.invokevirtual 104, 3) := by decide +kernel
theorem dX1_work_70 : decode cX1_work 70 = .ok (.aload_n 0, 1) := by decide +kernel
theorem dX1_work_71 : decode cX1_work 71 = .ok (.getfield 59, 3) := by decide +kernel
theorem dX1_work_74 : decode cX1_work 74 = .ok (.iload_n 1, 1) := by decide +kernel
theorem dX1_work_75 : decode cX1_work 75 = .ok (.iconst 4, 1) := by decide +kernel
theorem dX1_work_76 : decode cX1_work 76 = .ok (.iconst 1, 1) := by decide +kernel
theorem dX1_work_77 : decode cX1_work 77 = .ok (.invokevirtual 104, 3) := by decide +kernel
theorem dX1_work_80 : decode cX1_work 80 = .ok (.iinc 1 1, 3) := by decide +kernel
theorem dX1_work_83 : decode cX1_work 83 = .ok (.goto (-81), 3) := by decide +kernel
theorem dX1_work_86 : decode cX1_work 86 = .ok (.return_, 1) := by decide +kernel
def bfX1_work_80  (K2 : Int32 × (StS) → Option (StS)) (x1 : Int32) (S : StS) : Option (StS) :=
  K2 ((x1 + (1 : Int32)), S)
def bfX1_work_66  (K2 : Int32 × (StS) → Option (StS)) (x1 : Int32) (s1 : Int32) (s2 : Int32) (S : StS) : Option (StS) :=
  nm (sadd 7 S s1 s2 (-1 : Int32)) fun S4 => nm (sadd 7 S4 x1 (4 : Int32) (1 : Int32)) fun S5 => bfX1_work_80  K2 x1 S5
def bfX1_work_51  (K2 : Int32 × (StS) → Option (StS)) (x1 : Int32) (x2 : Int32) (S : StS) : Option (StS) :=
  (if x2 = (2 : Int32) then bfX1_work_66  K2 x1 x1 ((2 : Int32)) S else bfX1_work_66  K2 x1 x1 ((3 : Int32)) S)
def bfX1_work_36  (K2 : Int32 × (StS) → Option (StS)) (x1 : Int32) (x2 : Int32) (s0 : Int32) (S : StS) : Option (StS) :=
  (if s0 = 0 then bfX1_work_80  K2 x1 S else (if x2 = (2 : Int32) then bfX1_work_51  K2 x1 x2 S else (if x2 = (4 : Int32) then bfX1_work_51  K2 x1 x2 S else bfX1_work_80  K2 x1 S)))
def bfX1_work_2  (K2 : Int32 × (StS) → Option (StS)) (x : Int32 × (StS)) : Option (StS) :=
  match x with
  | (x1, S) => (if (4 : Int32) ≤ x1 then some S else nm ((sget 7 S x1 (5 : Int32))) fun v6 => (if (sget 7 S x1 (0 : Int32)) = (-9 : Int32) then bfX1_work_36  K2 x1 v6 ((0 : Int32)) S else bfX1_work_36  K2 x1 v6 ((1 : Int32)) S))
def fX1_work  (S : StS) : Option (StS) :=
  iter (bfX1_work_2) FU ((0 : Int32), S)
set_option maxHeartbeats 4000000 in
set_option maxRecDepth 100000 in
theorem kX1_work (l : Launch) (D : va_G) (cI cS : ClassId) (aS : Nat → Nat)  (S : StS) {q : StS} (h : fX1_work  S = some q) : Mc l D (tyL cI cS) false yX1_work cX1_work 4 none 3 [.ref (aS 0)] (wS cI aS S) none (wS cI aS q) := by
  refine Mc_of RX1 (by decide +kernel) rfl wc_X1_work (Nat.le_of_ble_eq_true rfl) ?_
  intro p e s m args below meth c A Q ls C hA hz hP hD hS hl RET
  have RETh : ∀ {pc : Nat} {ls : Array Slot} {H : Heap} {locs : List Loc} {S1 : StS}, decode cX1_work pc = .ok (.return_, 1) → some S1 = some q → va_P D vwCl (wS cI aS S1) H → va_D A (wS cI aS S1) → va_S A s.heap H locs → W p l e (rmL 3) s m args below meth c H locs 0 0 Q (F0 m pc ls []) := by
    intro pc ls H locs S1 hd h hP hD hS; cases h; exact RET (x_vret C hd) hP hD hS
  have B80 : ∀ (K2 : Int32 × (StS) → Option (StS)) (ih2 : ∀ x, K2 x = some q → (match x with | (x1, S) => ∀ (H : Heap) (locs : List Loc) (ls : Array Slot), va_P D vwCl (wS cI aS S) H → va_D A (wS cI aS S) → va_S A s.heap H locs → lv_has ls 4 [(0, .ref (aS 0)), (1, .int x1)] → W p l e (rmL 3) s m args below meth c H locs 0 0 Q (F0 m 2 ls []))) (x1 : Int32) (S : StS), bfX1_work_80 K2 x1 S = some q → ∀ (H : Heap) (locs : List Loc) (ls : Array Slot), va_P D vwCl (wS cI aS S) H → va_D A (wS cI aS S) → va_S A s.heap H locs → lv_has ls 4 [(0, .ref (aS 0)), (1, .int x1)] → W p l e (rmL 3) s m args below meth c H locs 0 0 Q (F0 m 80 ls []) := by
    intro K2 ih2 x1 S h H locs ls hP hD hS hl
    refine x_iinc (v := (x1 + (1 : Int32))) (lv' := [(1, .int (x1 + (1 : Int32))), (0, .ref (aS 0))]) C dX1_work_80 hl (k := 1) rfl rfl (by decide) rfl (fun ls hl => ?_)
    refine x_goto (tgt := 2) C dX1_work_83 (by decide) ?_
    exact ih2 _ h _ _ _ hP hD hS (lv_sub hl [1, 0] rfl)
  have B66 : ∀ (K2 : Int32 × (StS) → Option (StS)) (ih2 : ∀ x, K2 x = some q → (match x with | (x1, S) => ∀ (H : Heap) (locs : List Loc) (ls : Array Slot), va_P D vwCl (wS cI aS S) H → va_D A (wS cI aS S) → va_S A s.heap H locs → lv_has ls 4 [(0, .ref (aS 0)), (1, .int x1)] → W p l e (rmL 3) s m args below meth c H locs 0 0 Q (F0 m 2 ls []))) (x1 : Int32) (s1 : Int32) (s2 : Int32) (S : StS), bfX1_work_66 K2 x1 s1 s2 S = some q → ∀ (H : Heap) (locs : List Loc) (ls : Array Slot), va_P D vwCl (wS cI aS S) H → va_D A (wS cI aS S) → va_S A s.heap H locs → lv_has ls 4 [(0, .ref (aS 0)), (1, .int x1)] → W p l e (rmL 3) s m args below meth c H locs 0 0 Q (F0 m 66 ls [.int s2, .int s1, .ref (aS 15)]) := by
    intro K2 ih2 x1 s1 s2 S h H locs ls hP hD hS hl
    refine x_iconst (v := (-1 : Int32)) C dX1_work_66 (by decide) ?_
    refine x_callV (As := [.int _, .int _, .int _]) (n := 3) C (kS_add l D cI cS aS _ 7 (by decide) _ _ _) (fun hh => nomatch hh) wm_X1_104 wi_X3_add we_X3_add wz_X3 wc_X3_add (by decide +kernel) rfl hP hD hS hA 15 1 rfl rfl rfl hl.1 dX1_work_67 rfl (Nat.le_of_ble_eq_true rfl) ⟨Nat.le_of_ble_eq_true rfl, Nat.le_of_ble_eq_true rfl⟩ ⟨Nat.zero_le _, Nat.zero_le _⟩ (fun H locs hP hD hS => ?_)
    refine x_nmS (wS cI aS) h hP hD (fun S4 h hP hD => ?_)
    refine x_aload_n C dX1_work_70 rfl hl 0 rfl ?_
    refine x_get C inX2 hP 0 rfl rfl 7 (by decide) wf_X1_59 rfl dX1_work_71 ?_
    refine x_iload_n C dX1_work_74 rfl hl 1 rfl ?_
    refine x_iconst (v := (4 : Int32)) C dX1_work_75 (by decide) ?_
    refine x_iconst (v := (1 : Int32)) C dX1_work_76 (by decide) ?_
    refine x_callV (As := [.int _, .int _, .int _]) (n := 3) C (kS_add l D cI cS aS _ 7 (by decide) _ _ _) (fun hh => nomatch hh) wm_X1_104 wi_X3_add we_X3_add wz_X3 wc_X3_add (by decide +kernel) rfl hP hD hS hA 15 1 rfl rfl rfl hl.1 dX1_work_77 rfl (Nat.le_of_ble_eq_true rfl) ⟨Nat.le_of_ble_eq_true rfl, Nat.le_of_ble_eq_true rfl⟩ ⟨Nat.zero_le _, Nat.zero_le _⟩ (fun H locs hP hD hS => ?_)
    refine x_nmS (wS cI aS) h hP hD (fun S5 h hP hD => ?_)
    exact B80 K2 ih2 _ _ h _ _ _ hP hD hS hl
  have B51 : ∀ (K2 : Int32 × (StS) → Option (StS)) (ih2 : ∀ x, K2 x = some q → (match x with | (x1, S) => ∀ (H : Heap) (locs : List Loc) (ls : Array Slot), va_P D vwCl (wS cI aS S) H → va_D A (wS cI aS S) → va_S A s.heap H locs → lv_has ls 4 [(0, .ref (aS 0)), (1, .int x1)] → W p l e (rmL 3) s m args below meth c H locs 0 0 Q (F0 m 2 ls []))) (x1 : Int32) (x2 : Int32) (S : StS), bfX1_work_51 K2 x1 x2 S = some q → ∀ (H : Heap) (locs : List Loc) (ls : Array Slot), va_P D vwCl (wS cI aS S) H → va_D A (wS cI aS S) → va_S A s.heap H locs → lv_has ls 4 [(0, .ref (aS 0)), (1, .int x1), (2, .int x2)] → W p l e (rmL 3) s m args below meth c H locs 0 0 Q (F0 m 51 ls []) := by
    intro K2 ih2 x1 x2 S h H locs ls hP hD hS hl
    refine x_aload_n C dX1_work_51 rfl hl 0 rfl ?_
    refine x_get C inX2 hP 0 rfl rfl 7 (by decide) wf_X1_59 rfl dX1_work_52 ?_
    refine x_iload_n C dX1_work_55 rfl hl 1 rfl ?_
    refine x_iload_n C dX1_work_56 rfl hl 2 rfl ?_
    refine x_iconst (v := (2 : Int32)) C dX1_work_57 (by decide) ?_
    refine x_icmp_ne (tgt := 65) C h dX1_work_58 (by decide) (fun h => ?_) (fun h => ?_)
    · refine x_iconst (v := (3 : Int32)) C dX1_work_65 (by decide) ?_
      exact B66 K2 ih2 _ _ _ _ h _ _ _ hP hD hS (lv_sub hl [0, 1] rfl)
    · refine x_iconst (v := (2 : Int32)) C dX1_work_61 (by decide) ?_
      refine x_goto (tgt := 66) C dX1_work_62 (by decide) ?_
      exact B66 K2 ih2 _ _ _ _ h _ _ _ hP hD hS (lv_sub hl [0, 1] rfl)
  have B36 : ∀ (K2 : Int32 × (StS) → Option (StS)) (ih2 : ∀ x, K2 x = some q → (match x with | (x1, S) => ∀ (H : Heap) (locs : List Loc) (ls : Array Slot), va_P D vwCl (wS cI aS S) H → va_D A (wS cI aS S) → va_S A s.heap H locs → lv_has ls 4 [(0, .ref (aS 0)), (1, .int x1)] → W p l e (rmL 3) s m args below meth c H locs 0 0 Q (F0 m 2 ls []))) (x1 : Int32) (x2 : Int32) (s0 : Int32) (S : StS), bfX1_work_36 K2 x1 x2 s0 S = some q → ∀ (H : Heap) (locs : List Loc) (ls : Array Slot), va_P D vwCl (wS cI aS S) H → va_D A (wS cI aS S) → va_S A s.heap H locs → lv_has ls 4 [(0, .ref (aS 0)), (1, .int x1), (2, .int x2)] → W p l e (rmL 3) s m args below meth c H locs 0 0 Q (F0 m 36 ls [.int s0]) := by
    intro K2 ih2 x1 x2 s0 S h H locs ls hP hD hS hl
    refine x_istore_n (lv' := [(3, .int s0), (0, .ref (aS 0)), (1, .int x1), (2, .int x2)]) C dX1_work_36 rfl hl (by decide) rfl (fun ls hl => ?_)
    refine x_iload_n C dX1_work_37 rfl hl 0 rfl ?_
    refine x_if_eq (tgt := 80) C h dX1_work_38 (by decide) (fun h => ?_) (fun h => ?_)
    · exact B80 K2 ih2 _ _ h _ _ _ hP hD hS (lv_sub hl [1, 2] rfl)
    · refine x_iload_n C dX1_work_41 rfl hl 3 rfl ?_
      refine x_iconst (v := (2 : Int32)) C dX1_work_42 (by decide) ?_
      refine x_icmp_eq (tgt := 51) C h dX1_work_43 (by decide) (fun h => ?_) (fun h => ?_)
      · exact B51 K2 ih2 _ _ _ h _ _ _ hP hD hS (lv_sub hl [1, 2, 3] rfl)
      · refine x_iload_n C dX1_work_46 rfl hl 3 rfl ?_
        refine x_iconst (v := (4 : Int32)) C dX1_work_47 (by decide) ?_
        refine x_icmp_ne (tgt := 80) C h dX1_work_48 (by decide) (fun h => ?_) (fun h => ?_)
        · exact B80 K2 ih2 _ _ h _ _ _ hP hD hS (lv_sub hl [1, 2] rfl)
        · exact B51 K2 ih2 _ _ _ h _ _ _ hP hD hS (lv_sub hl [1, 2, 3] rfl)
  have B2 : ∀ (n : Nat) (x : Int32 × (StS)), iter (bfX1_work_2) n x = some q → (match x with | (x1, S) => ∀ (H : Heap) (locs : List Loc) (ls : Array Slot), va_P D vwCl (wS cI aS S) H → va_D A (wS cI aS S) → va_S A s.heap H locs → lv_has ls 4 [(0, .ref (aS 0)), (1, .int x1)] → W p l e (rmL 3) s m args below meth c H locs 0 0 Q (F0 m 2 ls [])) := by
    refine iter_ind (fun x : Int32 × (StS) => (match x with | (x1, S) => ∀ (H : Heap) (locs : List Loc) (ls : Array Slot), va_P D vwCl (wS cI aS S) H → va_D A (wS cI aS S) → va_S A s.heap H locs → lv_has ls 4 [(0, .ref (aS 0)), (1, .int x1)] → W p l e (rmL 3) s m args below meth c H locs 0 0 Q (F0 m 2 ls []))) ?_
    intro K2 ih2 x h
    obtain ⟨x1, S⟩ := x
    intro H locs ls hP hD hS hl
    refine x_iload_n C dX1_work_2 rfl hl 1 rfl ?_
    refine x_iconst (v := (4 : Int32)) C dX1_work_3 (by decide) ?_
    refine x_icmp_ge (tgt := 86) C h dX1_work_4 (by decide) (fun h => ?_) (fun h => ?_)
    · exact RETh dX1_work_86 h hP hD hS
    · refine x_aload_n C dX1_work_7 rfl hl 0 rfl ?_
      refine x_get C inX2 hP 0 rfl rfl 7 (by decide) wf_X1_59 rfl dX1_work_8 ?_
      refine x_iload_n C dX1_work_11 rfl hl 1 rfl ?_
      refine x_iconst (v := (5 : Int32)) C dX1_work_12 (by decide) ?_
      refine x_callV (As := [.int _, .int _]) (n := 2) C (kS_get l D cI cS aS _ 7 (by decide) _ _) (fun hh => nomatch hh) wm_X1_15 wi_X3_get we_X3_get wz_X3 wc_X3_get (by decide +kernel) rfl hP hD hS hA 15 1 rfl rfl rfl hl.1 dX1_work_13 rfl (Nat.le_of_ble_eq_true rfl) ⟨Nat.le_of_ble_eq_true rfl, Nat.le_of_ble_eq_true rfl⟩ ⟨Nat.zero_le _, Nat.zero_le _⟩ (fun H locs hP hD hS => ?_)
      refine x_nmi h (fun v6 h => ?_)
      refine x_istore_n (lv' := [(2, .int v6), (0, .ref (aS 0)), (1, .int x1)]) C dX1_work_16 rfl hl (by decide) rfl (fun ls hl => ?_)
      refine x_aload_n C dX1_work_17 rfl hl 1 rfl ?_
      refine x_get C inX2 hP 0 rfl rfl 7 (by decide) wf_X1_59 rfl dX1_work_18 ?_
      refine x_iload_n C dX1_work_21 rfl hl 2 rfl ?_
      refine x_iconst (v := (0 : Int32)) C dX1_work_22 (by decide) ?_
      refine x_callV (As := [.int _, .int _]) (n := 2) C (kS_get l D cI cS aS _ 7 (by decide) _ _) (fun hh => nomatch hh) wm_X1_15 wi_X3_get we_X3_get wz_X3 wc_X3_get (by decide +kernel) rfl hP hD hS hA 15 1 rfl rfl rfl hl.1 dX1_work_23 rfl (Nat.le_of_ble_eq_true rfl) ⟨Nat.le_of_ble_eq_true rfl, Nat.le_of_ble_eq_true rfl⟩ ⟨Nat.zero_le _, Nat.zero_le _⟩ (fun H locs hP hD hS => ?_)
      refine x_bipush (v := (-9 : Int32)) C dX1_work_26 (by decide) ?_
      refine x_icmp_eq (tgt := 35) C h dX1_work_28 (by decide) (fun h => ?_) (fun h => ?_)
      · refine x_iconst (v := (0 : Int32)) C dX1_work_35 (by decide) ?_
        exact B36 K2 ih2 _ _ _ _ h _ _ _ hP hD hS (lv_sub hl [1, 2, 0] rfl)
      · refine x_iconst (v := (1 : Int32)) C dX1_work_31 (by decide) ?_
        refine x_goto (tgt := 36) C dX1_work_32 (by decide) ?_
        exact B36 K2 ih2 _ _ _ _ h _ _ _ hP hD hS (lv_sub hl [1, 2, 0] rfl)
  refine x_iconst (v := (0 : Int32)) C dX1_work_0 (by decide) ?_
  refine x_istore_n (lv' := [(1, .int (0 : Int32)), (0, .ref (aS 0))]) C dX1_work_1 rfl hl (by decide) rfl (fun ls hl => ?_)
  exact B2 FU _ h _ _ _ hP hD hS (lv_sub hl [1, 0] rfl)
theorem dX2_copyFrom_0 : decode cX2_copyFrom 0 = .ok (.aload_n 0, 1) := by decide +kernel
theorem dX2_copyFrom_1 : decode cX2_copyFrom 1 = .ok (.getfield 14, 3) := by decide +kernel
theorem dX2_copyFrom_4 : decode cX2_copyFrom 4 = .ok (.aload_n 1, 1) := by decide +kernel
theorem dX2_copyFrom_5 : decode cX2_copyFrom 5 = .ok (.getfield 14, 3) := by decide +kernel
theorem dX2_copyFrom_8 : decode cX2_copyFrom 8 = .ok (.invokevirtual 65, 3) := by decide +kernel
theorem dX2_copyFrom_11 : decode cX2_copyFrom 11 = .ok (.aload_n 0, 1) := by decide +kernel
theorem dX2_copyFrom_12 : decode cX2_copyFrom 12 = .ok (.getfield 20, 3) := by decide +kernel
theorem dX2_copyFrom_15 : decode cX2_copyFrom 15 = .ok (.aload_n 1, 1) := by decide +kernel
theorem dX2_copyFrom_16 : decode cX2_copyFrom 16 = .ok (.getfield 20, 3) := by decide +kernel
theorem dX2_copyFrom_19 : decode cX2_copyFrom 19 = .ok (.invokevirtual 65, 3) := by decide +kernel
theorem dX2_copyFrom_22 : decode cX2_copyFrom 22 = .ok (.aload_n 0, 1) := by decide +kernel
theorem dX2_copyFrom_23 : decode cX2_copyFrom 23 = .ok (.getfield 23, 3) := by decide +kernel
theorem dX2_copyFrom_26 : decode cX2_copyFrom 26 = .ok (.aload_n 1, 1) := by decide +kernel
theorem dX2_copyFrom_27 : decode cX2_copyFrom 27 = .ok (.getfield 23, 3) := by decide +kernel
theorem dX2_copyFrom_30 : decode cX2_copyFrom 30 = .ok (.invokevirtual 65, 3) := by decide +kernel
theorem dX2_copyFrom_33 : decode cX2_copyFrom 33 = .ok (.aload_n 0, 1) := by decide +kernel
theorem dX2_copyFrom_34 : decode cX2_copyFrom 34 = .ok (.getfield 26, 3) := by decide +kernel
theorem dX2_copyFrom_37 : decode cX2_copyFrom 37 = .ok (.aload_n 1, 1) := by decide +kernel
theorem dX2_copyFrom_38 : decode cX2_copyFrom 38 = .ok (.getfield 26, 3) := by decide +kernel
theorem dX2_copyFrom_41 : decode cX2_copyFrom 41 = .ok (.invokevirtual 65, 3) := by decide +kernel
theorem dX2_copyFrom_44 : decode cX2_copyFrom 44 = .ok (.aload_n 0, 1) := by decide +kernel
theorem dX2_copyFrom_45 : decode cX2_copyFrom 45 = .ok (.getfield 29, 3) := by decide +kernel
theorem dX2_copyFrom_48 : decode cX2_copyFrom 48 = .ok (.aload_n 1, 1) := by decide +kernel
theorem dX2_copyFrom_49 : decode cX2_copyFrom 49 = .ok (.getfield 29, 3) := by decide +kernel
theorem dX2_copyFrom_52 : decode cX2_copyFrom 52 = .ok (.invokevirtual 65, 3) := by decide +kernel
theorem dX2_copyFrom_55 : decode cX2_copyFrom 55 = .ok (.aload_n 0, 1) := by decide +kernel
theorem dX2_copyFrom_56 : decode cX2_copyFrom 56 = .ok (.getfield 32, 3) := by decide +kernel
theorem dX2_copyFrom_59 : decode cX2_copyFrom 59 = .ok (.aload_n 1, 1) := by decide +kernel
theorem dX2_copyFrom_60 : decode cX2_copyFrom 60 = .ok (.getfield 32, 3) := by decide +kernel
theorem dX2_copyFrom_63 : decode cX2_copyFrom 63 = .ok (.invokevirtual 65, 3) := by decide +kernel
theorem dX2_copyFrom_66 : decode cX2_copyFrom 66 = .ok (.aload_n 0, 1) := by decide +kernel
theorem dX2_copyFrom_67 : decode cX2_copyFrom 67 = .ok (.getfield 35, 3) := by decide +kernel
theorem dX2_copyFrom_70 : decode cX2_copyFrom 70 = .ok (.aload_n 1, 1) := by decide +kernel
theorem dX2_copyFrom_71 : decode cX2_copyFrom 71 = .ok (.getfield 35, 3) := by decide +kernel
theorem dX2_copyFrom_74 : decode cX2_copyFrom 74 = .ok (.invokevirtual 65, 3) := by decide +kernel
theorem dX2_copyFrom_77 : decode cX2_copyFrom 77 = .ok (.aload_n 0, 1) := by decide +kernel
theorem dX2_copyFrom_78 : decode cX2_copyFrom 78 = .ok (.getfield 38, 3) := by decide +kernel
theorem dX2_copyFrom_81 : decode cX2_copyFrom 81 = .ok (.aload_n 1, 1) := by decide +kernel
theorem dX2_copyFrom_82 : decode cX2_copyFrom 82 = .ok (.getfield 38, 3) := by decide +kernel
theorem dX2_copyFrom_85 : decode cX2_copyFrom 85 = .ok (.invokevirtual 65, 3) := by decide +kernel
theorem dX2_copyFrom_88 : decode cX2_copyFrom 88 = .ok (.aload_n 0, 1) := by decide +kernel
theorem dX2_copyFrom_89 : decode cX2_copyFrom 89 = .ok (.getfield 41, 3) := by decide +kernel
theorem dX2_copyFrom_92 : decode cX2_copyFrom 92 = .ok (.aload_n 1, 1) := by decide +kernel
theorem dX2_copyFrom_93 : decode cX2_copyFrom 93 = .ok (.getfield 41, 3) := by decide +kernel
theorem dX2_copyFrom_96 : decode cX2_copyFrom 96 = .ok (.invokevirtual 65, 3) := by decide +kernel
theorem dX2_copyFrom_99 : decode cX2_copyFrom 99 = .ok (.aload_n 0, 1) := by decide +kernel
theorem dX2_copyFrom_100 : decode cX2_copyFrom 100 = .ok (.getfield 44, 3) := by decide +kernel
theorem dX2_copyFrom_103 : decode cX2_copyFrom 103 = .ok (.aload_n 1, 1) := by decide +kernel
theorem dX2_copyFrom_104 : decode cX2_copyFrom 104 = .ok (.getfield 44, 3) := by decide +kernel
theorem dX2_copyFrom_107 : decode cX2_copyFrom 107 = .ok (.invokevirtual 65, 3) := by decide +kernel
theorem dX2_copyFrom_110 : decode cX2_copyFrom 110 = .ok (.aload_n 0, 1) := by decide +kernel
theorem dX2_copyFrom_111 : decode cX2_copyFrom 111 = .ok (.getfield 47, 3) := by decide +kernel
theorem dX2_copyFrom_114 : decode cX2_copyFrom 114 = .ok (.aload_n 1, 1) := by decide +kernel
theorem dX2_copyFrom_115 : decode cX2_copyFrom 115 = .ok (.getfield 47, 3) := by decide +kernel
theorem dX2_copyFrom_118 : decode cX2_copyFrom 118 = .ok (.invokevirtual 65, 3) := by decide +kernel
theorem dX2_copyFrom_121 : decode cX2_copyFrom 121 = .ok (.aload_n 0, 1) := by decide +kernel
theorem dX2_copyFrom_122 : decode cX2_copyFrom 122 = .ok (.aload_n 1, 1) := by decide +kernel
theorem dX2_copyFrom_123 : decode cX2_copyFrom 123 = .ok (.getfield 69, 3) := by decide +kernel
theorem dX2_copyFrom_126 : decode cX2_copyFrom 126 = .ok (.putfield 69, 3) := by decide +kernel
theorem dX2_copyFrom_129 : decode cX2_copyFrom 129 = .ok (.aload_n 0, 1) := by decide +kernel
theorem dX2_copyFrom_130 : decode cX2_copyFrom 130 = .ok (.aload_n 1, 1) := by decide +kernel
theorem dX2_copyFrom_131 : decode cX2_copyFrom 131 = .ok (.getfield 72, 3) := by decide +kernel
theorem dX2_copyFrom_134 : decode cX2_copyFrom 134 = .ok (.putfield 72, 3) := by decide +kernel
theorem dX2_copyFrom_137 : decode cX2_copyFrom 137 = .ok (.aload_n 0, 1) := by decide +kernel
theorem dX2_copyFrom_138 : decode cX2_copyFrom 138 = .ok (.aload_n 1, 1) := by decide +kernel
theorem dX2_copyFrom_139 : decode cX2_copyFrom 139 = .ok (.getfield 50, 3) := by decide +kernel
theorem dX2_copyFrom_142 : decode cX2_copyFrom 142 = .ok (.putfield 50, 3) := by decide +kernel
theorem dX2_copyFrom_145 : decode cX2_copyFrom 145 = .ok (.aload_n 0, 1) := by decide +kernel
theorem dX2_copyFrom_146 : decode cX2_copyFrom 146 = .ok (.aload_n 1, 1) := by decide +kernel
theorem dX2_copyFrom_147 : decode cX2_copyFrom 147 = .ok (.getfield 75, 3) := by decide +kernel
theorem dX2_copyFrom_150 : decode cX2_copyFrom 150 = .ok (.putfield 75, 3) := by decide +kernel
theorem dX2_copyFrom_153 : decode cX2_copyFrom 153 = .ok (.aload_n 0, 1) := by decide +kernel
theorem dX2_copyFrom_154 : decode cX2_copyFrom 154 = .ok (.aload_n 1, 1) := by decide +kernel
theorem dX2_copyFrom_155 : decode cX2_copyFrom 155 = .ok (.getfield 78, 3) := by decide +kernel
theorem dX2_copyFrom_158 : decode cX2_copyFrom 158 = .ok (.putfield 78, 3) := by decide +kernel
theorem dX2_copyFrom_161 : decode cX2_copyFrom 161 = .ok (.aload_n 0, 1) := by decide +kernel
theorem dX2_copyFrom_162 : decode cX2_copyFrom 162 = .ok (.aload_n 1, 1) := by decide +kernel
theorem dX2_copyFrom_163 : decode cX2_copyFrom 163 = .ok (.getfield 81, 3) := by decide +kernel
theorem dX2_copyFrom_166 : decode cX2_copyFrom 166 = .ok (.putfield 81, 3) := by decide +kernel
theorem dX2_copyFrom_169 : decode cX2_copyFrom 169 = .ok (.aload_n 0, 1) := by decide +kernel
theorem dX2_copyFrom_170 : decode cX2_copyFrom 170 = .ok (.aload_n 1, 1) := by decide +kernel
theorem dX2_copyFrom_171 : decode cX2_copyFrom 171 = .ok (.getfield 84, 3) := by decide +kernel
theorem dX2_copyFrom_174 : decode cX2_copyFrom 174 = .ok (.putfield 84, 3) := by decide +kernel
theorem dX2_copyFrom_177 : decode cX2_copyFrom 177 = .ok (.return_, 1) := by decide +kernel
def fX2_copyFrom  (S : StS × StS) : Option (StS × StS) :=
  nm (sset S.1 0 (S.2.1 0), S.2) fun S19 => nm (sset S19.1 1 (S19.2.1 1), S19.2) fun S20 => nm (sset S20.1 2 (S20.2.1 2), S20.2) fun S21 => nm (sset S21.1 3 (S21.2.1 3), S21.2) fun S22 => nm (sset S22.1 4 (S22.2.1 4), S22.2) fun S23 => nm (sset S23.1 5 (S23.2.1 5), S23.2) fun S24 => nm (sset S24.1 6 (S24.2.1 6), S24.2) fun S25 => nm (sset S25.1 7 (S25.2.1 7), S25.2) fun S26 => nm (sset S26.1 8 (S26.2.1 8), S26.2) fun S27 => nm (sset S27.1 9 (S27.2.1 9), S27.2) fun S28 => nm (sset S28.1 10 (S28.2.1 10), S28.2) fun S29 => nm ((S29.1.1, upd S29.1.2 11 (S29.2.2 11)), S29.2) fun S30 => nm ((S30.1.1, upd S30.1.2 12 (S30.2.2 12)), S30.2) fun S31 => nm ((S31.1.1, upd S31.1.2 13 (S31.2.2 13)), S31.2) fun S32 => nm ((S32.1.1, upd S32.1.2 14 (S32.2.2 14)), S32.2) fun S33 => nm ((S33.1.1, upd S33.1.2 15 (S33.2.2 15)), S33.2) fun S34 => nm ((S34.1.1, upd S34.1.2 16 (S34.2.2 16)), S34.2) fun S35 => nm ((S35.1.1, upd S35.1.2 17 (S35.2.2 17)), S35.2) fun S36 => some S36
set_option maxHeartbeats 4000000 in
set_option maxRecDepth 100000 in
theorem kX2_copyFrom (l : Launch) (D : va_G) (cI cS : ClassId) (aS bS : Nat → Nat)  (S : StS × StS) {q : StS × StS} (h : fX2_copyFrom  S = some q) : Mc l D (tyL cI cS) false yX2_copyFrom cX2_copyFrom 2 none 3 [.ref (aS 0), .ref (bS 0)] (wSS cI aS bS S) none (wSS cI aS bS q) := by
  refine Mc_of RX2 (by decide +kernel) rfl wc_X2_copyFrom (Nat.le_of_ble_eq_true rfl) ?_
  intro p e s m args below meth c A Q ls C hA hz hP hD hS hl RET
  have RETh : ∀ {pc : Nat} {ls : Array Slot} {H : Heap} {locs : List Loc} {S1 : StS × StS}, decode cX2_copyFrom pc = .ok (.return_, 1) → some S1 = some q → va_P D vwCl (wSS cI aS bS S1) H → va_D A (wSS cI aS bS S1) → va_S A s.heap H locs → W p l e (rmL 3) s m args below meth c H locs 0 0 Q (F0 m pc ls []) := by
    intro pc ls H locs S1 hd h hP hD hS; cases h; exact RET (x_vret C hd) hP hD hS
  refine x_aload_n C dX2_copyFrom_0 rfl hl 0 rfl ?_
  refine x_get C inX2 hP 0 rfl rfl 0 (by decide) wf_X2_14 rfl dX2_copyFrom_1 ?_
  refine x_aload_n C dX2_copyFrom_4 rfl hl 1 rfl ?_
  refine x_get C inX2 hP 23 rfl rfl 0 (by decide) wf_X2_14 rfl dX2_copyFrom_5 ?_
  refine x_callV (As := [.ref _]) (n := 1) C (kSS_copyFrom l D cI cS aS bS _ 0 (by decide)) (fun hh => nomatch hh) wm_X2_65 wi_X3_copyFrom we_X3_copyFrom wz_X3 wc_X3_copyFrom (by decide +kernel) rfl hP hD hS hA 1 1 rfl rfl rfl hl.1 dX2_copyFrom_8 rfl (Nat.le_of_ble_eq_true rfl) ⟨Nat.le_of_ble_eq_true rfl, Nat.le_of_ble_eq_true rfl⟩ ⟨Nat.zero_le _, Nat.zero_le _⟩ (fun H locs hP hD hS => ?_)
  refine x_nmS (wSS cI aS bS) h hP hD (fun S19 h hP hD => ?_)
  refine x_aload_n C dX2_copyFrom_11 rfl hl 0 rfl ?_
  refine x_get C inX2 hP 0 rfl rfl 1 (by decide) wf_X2_20 rfl dX2_copyFrom_12 ?_
  refine x_aload_n C dX2_copyFrom_15 rfl hl 1 rfl ?_
  refine x_get C inX2 hP 23 rfl rfl 1 (by decide) wf_X2_20 rfl dX2_copyFrom_16 ?_
  refine x_callV (As := [.ref _]) (n := 1) C (kSS_copyFrom l D cI cS aS bS _ 1 (by decide)) (fun hh => nomatch hh) wm_X2_65 wi_X3_copyFrom we_X3_copyFrom wz_X3 wc_X3_copyFrom (by decide +kernel) rfl hP hD hS hA 3 1 rfl rfl rfl hl.1 dX2_copyFrom_19 rfl (Nat.le_of_ble_eq_true rfl) ⟨Nat.le_of_ble_eq_true rfl, Nat.le_of_ble_eq_true rfl⟩ ⟨Nat.zero_le _, Nat.zero_le _⟩ (fun H locs hP hD hS => ?_)
  refine x_nmS (wSS cI aS bS) h hP hD (fun S20 h hP hD => ?_)
  refine x_aload_n C dX2_copyFrom_22 rfl hl 0 rfl ?_
  refine x_get C inX2 hP 0 rfl rfl 2 (by decide) wf_X2_23 rfl dX2_copyFrom_23 ?_
  refine x_aload_n C dX2_copyFrom_26 rfl hl 1 rfl ?_
  refine x_get C inX2 hP 23 rfl rfl 2 (by decide) wf_X2_23 rfl dX2_copyFrom_27 ?_
  refine x_callV (As := [.ref _]) (n := 1) C (kSS_copyFrom l D cI cS aS bS _ 2 (by decide)) (fun hh => nomatch hh) wm_X2_65 wi_X3_copyFrom we_X3_copyFrom wz_X3 wc_X3_copyFrom (by decide +kernel) rfl hP hD hS hA 5 1 rfl rfl rfl hl.1 dX2_copyFrom_30 rfl (Nat.le_of_ble_eq_true rfl) ⟨Nat.le_of_ble_eq_true rfl, Nat.le_of_ble_eq_true rfl⟩ ⟨Nat.zero_le _, Nat.zero_le _⟩ (fun H locs hP hD hS => ?_)
  refine x_nmS (wSS cI aS bS) h hP hD (fun S21 h hP hD => ?_)
  refine x_aload_n C dX2_copyFrom_33 rfl hl 0 rfl ?_
  refine x_get C inX2 hP 0 rfl rfl 3 (by decide) wf_X2_26 rfl dX2_copyFrom_34 ?_
  refine x_aload_n C dX2_copyFrom_37 rfl hl 1 rfl ?_
  refine x_get C inX2 hP 23 rfl rfl 3 (by decide) wf_X2_26 rfl dX2_copyFrom_38 ?_
  refine x_callV (As := [.ref _]) (n := 1) C (kSS_copyFrom l D cI cS aS bS _ 3 (by decide)) (fun hh => nomatch hh) wm_X2_65 wi_X3_copyFrom we_X3_copyFrom wz_X3 wc_X3_copyFrom (by decide +kernel) rfl hP hD hS hA 7 1 rfl rfl rfl hl.1 dX2_copyFrom_41 rfl (Nat.le_of_ble_eq_true rfl) ⟨Nat.le_of_ble_eq_true rfl, Nat.le_of_ble_eq_true rfl⟩ ⟨Nat.zero_le _, Nat.zero_le _⟩ (fun H locs hP hD hS => ?_)
  refine x_nmS (wSS cI aS bS) h hP hD (fun S22 h hP hD => ?_)
  refine x_aload_n C dX2_copyFrom_44 rfl hl 0 rfl ?_
  refine x_get C inX2 hP 0 rfl rfl 4 (by decide) wf_X2_29 rfl dX2_copyFrom_45 ?_
  refine x_aload_n C dX2_copyFrom_48 rfl hl 1 rfl ?_
  refine x_get C inX2 hP 23 rfl rfl 4 (by decide) wf_X2_29 rfl dX2_copyFrom_49 ?_
  refine x_callV (As := [.ref _]) (n := 1) C (kSS_copyFrom l D cI cS aS bS _ 4 (by decide)) (fun hh => nomatch hh) wm_X2_65 wi_X3_copyFrom we_X3_copyFrom wz_X3 wc_X3_copyFrom (by decide +kernel) rfl hP hD hS hA 9 1 rfl rfl rfl hl.1 dX2_copyFrom_52 rfl (Nat.le_of_ble_eq_true rfl) ⟨Nat.le_of_ble_eq_true rfl, Nat.le_of_ble_eq_true rfl⟩ ⟨Nat.zero_le _, Nat.zero_le _⟩ (fun H locs hP hD hS => ?_)
  refine x_nmS (wSS cI aS bS) h hP hD (fun S23 h hP hD => ?_)
  refine x_aload_n C dX2_copyFrom_55 rfl hl 0 rfl ?_
  refine x_get C inX2 hP 0 rfl rfl 5 (by decide) wf_X2_32 rfl dX2_copyFrom_56 ?_
  refine x_aload_n C dX2_copyFrom_59 rfl hl 1 rfl ?_
  refine x_get C inX2 hP 23 rfl rfl 5 (by decide) wf_X2_32 rfl dX2_copyFrom_60 ?_
  refine x_callV (As := [.ref _]) (n := 1) C (kSS_copyFrom l D cI cS aS bS _ 5 (by decide)) (fun hh => nomatch hh) wm_X2_65 wi_X3_copyFrom we_X3_copyFrom wz_X3 wc_X3_copyFrom (by decide +kernel) rfl hP hD hS hA 11 1 rfl rfl rfl hl.1 dX2_copyFrom_63 rfl (Nat.le_of_ble_eq_true rfl) ⟨Nat.le_of_ble_eq_true rfl, Nat.le_of_ble_eq_true rfl⟩ ⟨Nat.zero_le _, Nat.zero_le _⟩ (fun H locs hP hD hS => ?_)
  refine x_nmS (wSS cI aS bS) h hP hD (fun S24 h hP hD => ?_)
  refine x_aload_n C dX2_copyFrom_66 rfl hl 0 rfl ?_
  refine x_get C inX2 hP 0 rfl rfl 6 (by decide) wf_X2_35 rfl dX2_copyFrom_67 ?_
  refine x_aload_n C dX2_copyFrom_70 rfl hl 1 rfl ?_
  refine x_get C inX2 hP 23 rfl rfl 6 (by decide) wf_X2_35 rfl dX2_copyFrom_71 ?_
  refine x_callV (As := [.ref _]) (n := 1) C (kSS_copyFrom l D cI cS aS bS _ 6 (by decide)) (fun hh => nomatch hh) wm_X2_65 wi_X3_copyFrom we_X3_copyFrom wz_X3 wc_X3_copyFrom (by decide +kernel) rfl hP hD hS hA 13 1 rfl rfl rfl hl.1 dX2_copyFrom_74 rfl (Nat.le_of_ble_eq_true rfl) ⟨Nat.le_of_ble_eq_true rfl, Nat.le_of_ble_eq_true rfl⟩ ⟨Nat.zero_le _, Nat.zero_le _⟩ (fun H locs hP hD hS => ?_)
  refine x_nmS (wSS cI aS bS) h hP hD (fun S25 h hP hD => ?_)
  refine x_aload_n C dX2_copyFrom_77 rfl hl 0 rfl ?_
  refine x_get C inX2 hP 0 rfl rfl 7 (by decide) wf_X2_38 rfl dX2_copyFrom_78 ?_
  refine x_aload_n C dX2_copyFrom_81 rfl hl 1 rfl ?_
  refine x_get C inX2 hP 23 rfl rfl 7 (by decide) wf_X2_38 rfl dX2_copyFrom_82 ?_
  refine x_callV (As := [.ref _]) (n := 1) C (kSS_copyFrom l D cI cS aS bS _ 7 (by decide)) (fun hh => nomatch hh) wm_X2_65 wi_X3_copyFrom we_X3_copyFrom wz_X3 wc_X3_copyFrom (by decide +kernel) rfl hP hD hS hA 15 1 rfl rfl rfl hl.1 dX2_copyFrom_85 rfl (Nat.le_of_ble_eq_true rfl) ⟨Nat.le_of_ble_eq_true rfl, Nat.le_of_ble_eq_true rfl⟩ ⟨Nat.zero_le _, Nat.zero_le _⟩ (fun H locs hP hD hS => ?_)
  refine x_nmS (wSS cI aS bS) h hP hD (fun S26 h hP hD => ?_)
  refine x_aload_n C dX2_copyFrom_88 rfl hl 0 rfl ?_
  refine x_get C inX2 hP 0 rfl rfl 8 (by decide) wf_X2_41 rfl dX2_copyFrom_89 ?_
  refine x_aload_n C dX2_copyFrom_92 rfl hl 1 rfl ?_
  refine x_get C inX2 hP 23 rfl rfl 8 (by decide) wf_X2_41 rfl dX2_copyFrom_93 ?_
  refine x_callV (As := [.ref _]) (n := 1) C (kSS_copyFrom l D cI cS aS bS _ 8 (by decide)) (fun hh => nomatch hh) wm_X2_65 wi_X3_copyFrom we_X3_copyFrom wz_X3 wc_X3_copyFrom (by decide +kernel) rfl hP hD hS hA 17 1 rfl rfl rfl hl.1 dX2_copyFrom_96 rfl (Nat.le_of_ble_eq_true rfl) ⟨Nat.le_of_ble_eq_true rfl, Nat.le_of_ble_eq_true rfl⟩ ⟨Nat.zero_le _, Nat.zero_le _⟩ (fun H locs hP hD hS => ?_)
  refine x_nmS (wSS cI aS bS) h hP hD (fun S27 h hP hD => ?_)
  refine x_aload_n C dX2_copyFrom_99 rfl hl 0 rfl ?_
  refine x_get C inX2 hP 0 rfl rfl 9 (by decide) wf_X2_44 rfl dX2_copyFrom_100 ?_
  refine x_aload_n C dX2_copyFrom_103 rfl hl 1 rfl ?_
  refine x_get C inX2 hP 23 rfl rfl 9 (by decide) wf_X2_44 rfl dX2_copyFrom_104 ?_
  refine x_callV (As := [.ref _]) (n := 1) C (kSS_copyFrom l D cI cS aS bS _ 9 (by decide)) (fun hh => nomatch hh) wm_X2_65 wi_X3_copyFrom we_X3_copyFrom wz_X3 wc_X3_copyFrom (by decide +kernel) rfl hP hD hS hA 19 1 rfl rfl rfl hl.1 dX2_copyFrom_107 rfl (Nat.le_of_ble_eq_true rfl) ⟨Nat.le_of_ble_eq_true rfl, Nat.le_of_ble_eq_true rfl⟩ ⟨Nat.zero_le _, Nat.zero_le _⟩ (fun H locs hP hD hS => ?_)
  refine x_nmS (wSS cI aS bS) h hP hD (fun S28 h hP hD => ?_)
  refine x_aload_n C dX2_copyFrom_110 rfl hl 0 rfl ?_
  refine x_get C inX2 hP 0 rfl rfl 10 (by decide) wf_X2_47 rfl dX2_copyFrom_111 ?_
  refine x_aload_n C dX2_copyFrom_114 rfl hl 1 rfl ?_
  refine x_get C inX2 hP 23 rfl rfl 10 (by decide) wf_X2_47 rfl dX2_copyFrom_115 ?_
  refine x_callV (As := [.ref _]) (n := 1) C (kSS_copyFrom l D cI cS aS bS _ 10 (by decide)) (fun hh => nomatch hh) wm_X2_65 wi_X3_copyFrom we_X3_copyFrom wz_X3 wc_X3_copyFrom (by decide +kernel) rfl hP hD hS hA 21 1 rfl rfl rfl hl.1 dX2_copyFrom_118 rfl (Nat.le_of_ble_eq_true rfl) ⟨Nat.le_of_ble_eq_true rfl, Nat.le_of_ble_eq_true rfl⟩ ⟨Nat.zero_le _, Nat.zero_le _⟩ (fun H locs hP hD hS => ?_)
  refine x_nmS (wSS cI aS bS) h hP hD (fun S29 h hP hD => ?_)
  refine x_aload_n C dX2_copyFrom_121 rfl hl 0 rfl ?_
  refine x_aload_n C dX2_copyFrom_122 rfl hl 1 rfl ?_
  refine x_get C inX2 hP 23 rfl rfl 11 (by decide) wf_X2_69 rfl dX2_copyFrom_123 ?_
  refine x_putM (wSS cI aS bS) C h inX2 tyX2 tyX2_ok nmX2 hP hD hS 0 rfl rfl 11 (by decide) wf_X2_69 rfl (ft := .int) (by decide +kernel) rfl rfl (Nat.le_of_ble_eq_true rfl) rfl dX2_copyFrom_126 (fun S30 h H locs hP hD hS => ?_)
  refine x_aload_n C dX2_copyFrom_129 rfl hl 0 rfl ?_
  refine x_aload_n C dX2_copyFrom_130 rfl hl 1 rfl ?_
  refine x_get C inX2 hP 23 rfl rfl 12 (by decide) wf_X2_72 rfl dX2_copyFrom_131 ?_
  refine x_putM (wSS cI aS bS) C h inX2 tyX2 tyX2_ok nmX2 hP hD hS 0 rfl rfl 12 (by decide) wf_X2_72 rfl (ft := .int) (by decide +kernel) rfl rfl (Nat.le_of_ble_eq_true rfl) rfl dX2_copyFrom_134 (fun S31 h H locs hP hD hS => ?_)
  refine x_aload_n C dX2_copyFrom_137 rfl hl 0 rfl ?_
  refine x_aload_n C dX2_copyFrom_138 rfl hl 1 rfl ?_
  refine x_get C inX2 hP 23 rfl rfl 13 (by decide) wf_X2_50 rfl dX2_copyFrom_139 ?_
  refine x_putM (wSS cI aS bS) C h inX2 tyX2 tyX2_ok nmX2 hP hD hS 0 rfl rfl 13 (by decide) wf_X2_50 rfl (ft := .int) (by decide +kernel) rfl rfl (Nat.le_of_ble_eq_true rfl) rfl dX2_copyFrom_142 (fun S32 h H locs hP hD hS => ?_)
  refine x_aload_n C dX2_copyFrom_145 rfl hl 0 rfl ?_
  refine x_aload_n C dX2_copyFrom_146 rfl hl 1 rfl ?_
  refine x_get C inX2 hP 23 rfl rfl 14 (by decide) wf_X2_75 rfl dX2_copyFrom_147 ?_
  refine x_putM (wSS cI aS bS) C h inX2 tyX2 tyX2_ok nmX2 hP hD hS 0 rfl rfl 14 (by decide) wf_X2_75 rfl (ft := .int) (by decide +kernel) rfl rfl (Nat.le_of_ble_eq_true rfl) rfl dX2_copyFrom_150 (fun S33 h H locs hP hD hS => ?_)
  refine x_aload_n C dX2_copyFrom_153 rfl hl 0 rfl ?_
  refine x_aload_n C dX2_copyFrom_154 rfl hl 1 rfl ?_
  refine x_get C inX2 hP 23 rfl rfl 15 (by decide) wf_X2_78 rfl dX2_copyFrom_155 ?_
  refine x_putM (wSS cI aS bS) C h inX2 tyX2 tyX2_ok nmX2 hP hD hS 0 rfl rfl 15 (by decide) wf_X2_78 rfl (ft := .int) (by decide +kernel) rfl rfl (Nat.le_of_ble_eq_true rfl) rfl dX2_copyFrom_158 (fun S34 h H locs hP hD hS => ?_)
  refine x_aload_n C dX2_copyFrom_161 rfl hl 0 rfl ?_
  refine x_aload_n C dX2_copyFrom_162 rfl hl 1 rfl ?_
  refine x_get C inX2 hP 23 rfl rfl 16 (by decide) wf_X2_81 rfl dX2_copyFrom_163 ?_
  refine x_putM (wSS cI aS bS) C h inX2 tyX2 tyX2_ok nmX2 hP hD hS 0 rfl rfl 16 (by decide) wf_X2_81 rfl (ft := .int) (by decide +kernel) rfl rfl (Nat.le_of_ble_eq_true rfl) rfl dX2_copyFrom_166 (fun S35 h H locs hP hD hS => ?_)
  refine x_aload_n C dX2_copyFrom_169 rfl hl 0 rfl ?_
  refine x_aload_n C dX2_copyFrom_170 rfl hl 1 rfl ?_
  refine x_get C inX2 hP 23 rfl rfl 17 (by decide) wf_X2_84 rfl dX2_copyFrom_171 ?_
  refine x_putM (wSS cI aS bS) C h inX2 tyX2 tyX2_ok nmX2 hP hD hS 0 rfl rfl 17 (by decide) wf_X2_84 rfl (ft := .int) (by decide +kernel) rfl rfl (Nat.le_of_ble_eq_true rfl) rfl dX2_copyFrom_174 (fun S36 h H locs hP hD hS => ?_)
  exact RETh dX2_copyFrom_177 h hP hD hS
theorem dX2_ofTick_0 : decode cX2_ofTick 0 = .ok (.aload_n 0, 1) := by decide +kernel
theorem dX2_ofTick_1 : decode cX2_ofTick 1 = .ok (.getfield 47, 3) := by decide +kernel
theorem dX2_ofTick_4 : decode cX2_ofTick 4 = .ok (.iload_n 1, 1) := by decide +kernel
theorem dX2_ofTick_5 : decode cX2_ofTick 5 = .ok (.bipush 64, 2) := by decide +kernel
theorem dX2_ofTick_7 : decode cX2_ofTick 7 = .ok (.invokestatic 102, 3) := by decide +kernel
theorem dX2_ofTick_10 : decode cX2_ofTick 10 = .ok (.iload_n 2, 1) := by decide +kernel
theorem dX2_ofTick_11 : decode cX2_ofTick 11 = .ok (.invokevirtual 91, 3) := by decide +kernel
theorem dX2_ofTick_14 : decode cX2_ofTick 14 = .ok (.ireturn, 1) := by decide +kernel
def fX2_ofTick (p1 : Int32) (p2 : Int32) (S : StS) : Option (Int32) :=
  ob (fJ9_floorMod_7cf53 p1 (64 : Int32)) fun u2 => some (sget 10 S u2 p2)
set_option maxHeartbeats 4000000 in
set_option maxRecDepth 100000 in
theorem kX2_ofTick (l : Launch) (D : va_G) (cI cS : ClassId) (aS : Nat → Nat) (p1 : Int32) (p2 : Int32) (S : StS) {q : Int32} (h : fX2_ofTick p1 p2 S = some q) : Mc l D (tyL cI cS) false yX2_ofTick cX2_ofTick 3 (some .int) 2 [.ref (aS 0), .int p1, .int p2] (wS cI aS S) (some (.int q)) (wS cI aS S) := by
  refine Mc_of RX2 (by decide +kernel) rfl wc_X2_ofTick (Nat.le_of_ble_eq_true rfl) ?_
  intro p e s m args below meth c A Q ls C hA hz hP hD hS hl RET
  have RETh : ∀ {pc : Nat} {ls : Array Slot} {H : Heap} {locs : List Loc} {x : Int32} , decode cX2_ofTick pc = .ok (.ireturn, 1) → some x = some q → va_P D vwCl (wS cI aS S) H → va_D A (wS cI aS S) → va_S A s.heap H locs → W p l e (rmL 2) s m args below meth c H locs 0 0 Q (F0 m pc ls [.int x]) := by
    intro pc ls H locs x hd h hP hD hS; cases h; exact RET (x_iret C hd) hP hD hS
  refine x_aload_n C dX2_ofTick_0 rfl hl 0 rfl ?_
  refine x_get C inX2 hP 0 rfl rfl 10 (by decide) wf_X2_47 rfl dX2_ofTick_1 ?_
  refine x_iload_n C dX2_ofTick_4 rfl hl 1 rfl ?_
  refine x_bipush (v := (64 : Int32)) C dX2_ofTick_5 (by decide) ?_
  obtain ⟨u2, hu2, h⟩ := ob_some h
  refine x_callS (As := [.int _, .int _]) (n := 2) C (kJ9_floorMod_7cf53 l D cI cS _ _ _ hu2) (fun hh => nomatch hh) wm_X2_102 wt_J9_floorMod_7cf53 wz_J9 wc_J9_floorMod_7cf53 (by decide +kernel) rfl hP hD hS hA hl.1 dX2_ofTick_7 rfl (Nat.le_of_ble_eq_true rfl) ⟨Nat.le_of_ble_eq_true rfl, Nat.le_of_ble_eq_true rfl⟩ ⟨Nat.zero_le _, Nat.zero_le _⟩ (fun H locs hP hD hS => ?_)
  refine x_iload_n C dX2_ofTick_10 rfl hl 2 rfl ?_
  refine x_callV (As := [.int _, .int _]) (n := 2) C (kS_get l D cI cS aS _ 10 (by decide) _ _) (fun hh => nomatch hh) wm_X2_91 wi_X3_get we_X3_get wz_X3 wc_X3_get (by decide +kernel) rfl hP hD hS hA 21 1 rfl rfl rfl hl.1 dX2_ofTick_11 rfl (Nat.le_of_ble_eq_true rfl) ⟨Nat.le_of_ble_eq_true rfl, Nat.le_of_ble_eq_true rfl⟩ ⟨Nat.zero_le _, Nat.zero_le _⟩ (fun H locs hP hD hS => ?_)
  exact RETh dX2_ofTick_14 h hP hD hS
theorem dX2_pendingWork_0 : decode cX2_pendingWork 0 = .ok (.iconst 0, 1) := by decide +kernel
theorem dX2_pendingWork_1 : decode cX2_pendingWork 1 = .ok (.istore_n 1, 1) := by decide +kernel
theorem dX2_pendingWork_2 : decode cX2_pendingWork 2 = .ok (.iconst 0, 1) := by decide +kernel
theorem dX2_pendingWork_3 : decode cX2_pendingWork 3 = .ok (.istore_n 2, 1) := by decide +kernel
theorem dX2_pendingWork_4 : decode cX2_pendingWork 4 = .ok (.iload_n 2, 1) := by decide +kernel
theorem dX2_pendingWork_5 : decode cX2_pendingWork 5 = .ok (.iconst 4, 1) := by decide +kernel
theorem dX2_pendingWork_6 : decode cX2_pendingWork 6 = .ok (.if_icmp .ge 39, 3) := by decide +kernel
theorem dX2_pendingWork_9 : decode cX2_pendingWork 9 = .ok (.iload_n 1, 1) := by decide +kernel
theorem dX2_pendingWork_10 : decode cX2_pendingWork 10 = .ok (.aload_n 0, 1) := by decide +kernel
theorem dX2_pendingWork_11 : decode cX2_pendingWork 11 = .ok (.getfield 38, 3) := by decide +kernel
theorem dX2_pendingWork_14 : decode cX2_pendingWork 14 = .ok (.iload_n 2, 1) := by decide +kernel
theorem dX2_pendingWork_15 : decode cX2_pendingWork 15 = .ok (.iconst 0, 1) := by decide +kernel
theorem dX2_pendingWork_16 : decode cX2_pendingWork 16 = .ok (.invokevirtual 91, 3) := by decide +kernel
theorem dX2_pendingWork_19 : decode cX2_pendingWork 19 = .ok (.bipush (-9), 2) := by decide +kernel
theorem dX2_pendingWork_21 : decode cX2_pendingWork 21 = .ok (.if_icmp .eq 15, 3) := by decide +kernel
theorem dX2_pendingWork_24 : decode cX2_pendingWork 24 = .ok (.aload_n 0, 1) := by decide +kernel
theorem dX2_pendingWork_25 : decode cX2_pendingWork 25 = .ok (.getfield 38, 3) := by decide +kernel
theorem dX2_pendingWork_28 : decode cX2_pendingWork 28 = .ok (.iload_n 2, 1) := by decide +kernel
theorem dX2_pendingWork_29 : decode cX2_pendingWork 29 = .ok (.iconst 4, 1) := by decide +kernel
theorem dX2_pendingWork_30 : decode cX2_pendingWork 30 = .ok (.invokevirtual 91, 3) := by decide +kernel
theorem dX2_pendingWork_33 : decode cX2_pendingWork 33 = .ok (.goto 4, 3) := by decide +kernel
theorem dX2_pendingWork_36 : decode cX2_pendingWork 36 = .ok (.iconst 0, 1) := by decide +kernel
theorem dX2_pendingWork_37 : decode cX2_pendingWork 37 = .ok (.iadd, 1) := by decide +kernel
theorem dX2_pendingWork_38 : decode cX2_pendingWork 38 = .ok (.istore_n 1, 1) := by decide +kernel
theorem dX2_pendingWork_39 : decode cX2_pendingWork 39 = .ok (.iinc 2 1, 3) := by decide +kernel
theorem dX2_pendingWork_42 : decode cX2_pendingWork 42 = .ok (.goto (-38), 3) := by decide +kernel
theorem dX2_pendingWork_45 : decode cX2_pendingWork 45 = .ok (.iload_n 1, 1) := by decide +kernel
theorem dX2_pendingWork_46 : decode cX2_pendingWork 46 = .ok (.ireturn, 1) := by decide +kernel
def bfX2_pendingWork_37 (S : StS) (K4 : Int32 × Int32 → Option (Int32)) (x2 : Int32) (s0 : Int32) (s1 : Int32) : Option (Int32) :=
  nm ((s0 + s1)) fun v2 => K4 (v2, (x2 + (1 : Int32)))
def bfX2_pendingWork_4 (S : StS) (K4 : Int32 × Int32 → Option (Int32)) (x : Int32 × Int32) : Option (Int32) :=
  match x with
  | (x1, x2) => (if (4 : Int32) ≤ x2 then some x1 else (if (sget 7 S x2 (0 : Int32)) = (-9 : Int32) then bfX2_pendingWork_37 S K4 x2 x1 ((0 : Int32)) else bfX2_pendingWork_37 S K4 x2 x1 ((sget 7 S x2 (4 : Int32)))))
def fX2_pendingWork (S : StS) : Option (Int32) :=
  iter (bfX2_pendingWork_4 S) FU ((0 : Int32), (0 : Int32))
set_option maxHeartbeats 4000000 in
set_option maxRecDepth 100000 in
theorem kX2_pendingWork (l : Launch) (D : va_G) (cI cS : ClassId) (aS : Nat → Nat) (S : StS) {q : Int32} (h : fX2_pendingWork S = some q) : Mc l D (tyL cI cS) false yX2_pendingWork cX2_pendingWork 3 (some .int) 2 [.ref (aS 0)] (wS cI aS S) (some (.int q)) (wS cI aS S) := by
  refine Mc_of RX2 (by decide +kernel) rfl wc_X2_pendingWork (Nat.le_of_ble_eq_true rfl) ?_
  intro p e s m args below meth c A Q ls C hA hz hP hD hS hl RET
  have RETh : ∀ {pc : Nat} {ls : Array Slot} {H : Heap} {locs : List Loc} {x : Int32} , decode cX2_pendingWork pc = .ok (.ireturn, 1) → some x = some q → va_P D vwCl (wS cI aS S) H → va_D A (wS cI aS S) → va_S A s.heap H locs → W p l e (rmL 2) s m args below meth c H locs 0 0 Q (F0 m pc ls [.int x]) := by
    intro pc ls H locs x hd h hP hD hS; cases h; exact RET (x_iret C hd) hP hD hS
  have B37 : ∀ (K4 : Int32 × Int32 → Option (Int32)) (ih4 : ∀ x, K4 x = some q → (match x with | (x1, x2) => ∀ (H : Heap) (locs : List Loc) (ls : Array Slot), va_P D vwCl (wS cI aS S) H → va_D A (wS cI aS S) → va_S A s.heap H locs → lv_has ls 3 [(0, .ref (aS 0)), (1, .int x1), (2, .int x2)] → W p l e (rmL 2) s m args below meth c H locs 0 0 Q (F0 m 4 ls []))) (x2 : Int32) (s0 : Int32) (s1 : Int32), bfX2_pendingWork_37 S K4 x2 s0 s1 = some q → ∀ (H : Heap) (locs : List Loc) (ls : Array Slot), va_P D vwCl (wS cI aS S) H → va_D A (wS cI aS S) → va_S A s.heap H locs → lv_has ls 3 [(0, .ref (aS 0)), (2, .int x2)] → W p l e (rmL 2) s m args below meth c H locs 0 0 Q (F0 m 37 ls [.int s1, .int s0]) := by
    intro K4 ih4 x2 s0 s1 h H locs ls hP hD hS hl
    refine x_iadd C dX2_pendingWork_37 ?_
    refine x_nmi h (fun v2 h => ?_)
    refine x_istore_n (lv' := [(1, .int v2), (0, .ref (aS 0)), (2, .int x2)]) C dX2_pendingWork_38 rfl hl (by decide) rfl (fun ls hl => ?_)
    refine x_iinc (v := (x2 + (1 : Int32))) (lv' := [(2, .int (x2 + (1 : Int32))), (1, .int v2), (0, .ref (aS 0))]) C dX2_pendingWork_39 hl (k := 2) rfl rfl (by decide) rfl (fun ls hl => ?_)
    refine x_goto (tgt := 4) C dX2_pendingWork_42 (by decide) ?_
    exact ih4 _ h _ _ _ hP hD hS (lv_sub hl [2, 1, 0] rfl)
  have B4 : ∀ (n : Nat) (x : Int32 × Int32), iter (bfX2_pendingWork_4 S) n x = some q → (match x with | (x1, x2) => ∀ (H : Heap) (locs : List Loc) (ls : Array Slot), va_P D vwCl (wS cI aS S) H → va_D A (wS cI aS S) → va_S A s.heap H locs → lv_has ls 3 [(0, .ref (aS 0)), (1, .int x1), (2, .int x2)] → W p l e (rmL 2) s m args below meth c H locs 0 0 Q (F0 m 4 ls [])) := by
    refine iter_ind (fun x : Int32 × Int32 => (match x with | (x1, x2) => ∀ (H : Heap) (locs : List Loc) (ls : Array Slot), va_P D vwCl (wS cI aS S) H → va_D A (wS cI aS S) → va_S A s.heap H locs → lv_has ls 3 [(0, .ref (aS 0)), (1, .int x1), (2, .int x2)] → W p l e (rmL 2) s m args below meth c H locs 0 0 Q (F0 m 4 ls []))) ?_
    intro K4 ih4 x h
    obtain ⟨x1, x2⟩ := x
    intro H locs ls hP hD hS hl
    refine x_iload_n C dX2_pendingWork_4 rfl hl 2 rfl ?_
    refine x_iconst (v := (4 : Int32)) C dX2_pendingWork_5 (by decide) ?_
    refine x_icmp_ge (tgt := 45) C h dX2_pendingWork_6 (by decide) (fun h => ?_) (fun h => ?_)
    · refine x_iload_n C dX2_pendingWork_45 rfl hl 1 rfl ?_
      exact RETh dX2_pendingWork_46 h hP hD hS
    · refine x_iload_n C dX2_pendingWork_9 rfl hl 1 rfl ?_
      refine x_aload_n C dX2_pendingWork_10 rfl hl 0 rfl ?_
      refine x_get C inX2 hP 0 rfl rfl 7 (by decide) wf_X2_38 rfl dX2_pendingWork_11 ?_
      refine x_iload_n C dX2_pendingWork_14 rfl hl 2 rfl ?_
      refine x_iconst (v := (0 : Int32)) C dX2_pendingWork_15 (by decide) ?_
      refine x_callV (As := [.int _, .int _]) (n := 2) C (kS_get l D cI cS aS _ 7 (by decide) _ _) (fun hh => nomatch hh) wm_X2_91 wi_X3_get we_X3_get wz_X3 wc_X3_get (by decide +kernel) rfl hP hD hS hA 15 1 rfl rfl rfl hl.1 dX2_pendingWork_16 rfl (Nat.le_of_ble_eq_true rfl) ⟨Nat.le_of_ble_eq_true rfl, Nat.le_of_ble_eq_true rfl⟩ ⟨Nat.zero_le _, Nat.zero_le _⟩ (fun H locs hP hD hS => ?_)
      refine x_bipush (v := (-9 : Int32)) C dX2_pendingWork_19 (by decide) ?_
      refine x_icmp_eq (tgt := 36) C h dX2_pendingWork_21 (by decide) (fun h => ?_) (fun h => ?_)
      · refine x_iconst (v := (0 : Int32)) C dX2_pendingWork_36 (by decide) ?_
        exact B37 K4 ih4 _ _ _ h _ _ _ hP hD hS (lv_sub hl [0, 2] rfl)
      · refine x_aload_n C dX2_pendingWork_24 rfl hl 0 rfl ?_
        refine x_get C inX2 hP 0 rfl rfl 7 (by decide) wf_X2_38 rfl dX2_pendingWork_25 ?_
        refine x_iload_n C dX2_pendingWork_28 rfl hl 2 rfl ?_
        refine x_iconst (v := (4 : Int32)) C dX2_pendingWork_29 (by decide) ?_
        refine x_callV (As := [.int _, .int _]) (n := 2) C (kS_get l D cI cS aS _ 7 (by decide) _ _) (fun hh => nomatch hh) wm_X2_91 wi_X3_get we_X3_get wz_X3 wc_X3_get (by decide +kernel) rfl hP hD hS hA 15 1 rfl rfl rfl hl.1 dX2_pendingWork_30 rfl (Nat.le_of_ble_eq_true rfl) ⟨Nat.le_of_ble_eq_true rfl, Nat.le_of_ble_eq_true rfl⟩ ⟨Nat.zero_le _, Nat.zero_le _⟩ (fun H locs hP hD hS => ?_)
        refine x_goto (tgt := 37) C dX2_pendingWork_33 (by decide) ?_
        exact B37 K4 ih4 _ _ _ h _ _ _ hP hD hS (lv_sub hl [0, 2] rfl)
  refine x_iconst (v := (0 : Int32)) C dX2_pendingWork_0 (by decide) ?_
  refine x_istore_n (lv' := [(1, .int (0 : Int32)), (0, .ref (aS 0))]) C dX2_pendingWork_1 rfl hl (by decide) rfl (fun ls hl => ?_)
  refine x_iconst (v := (0 : Int32)) C dX2_pendingWork_2 (by decide) ?_
  refine x_istore_n (lv' := [(2, .int (0 : Int32)), (1, .int (0 : Int32)), (0, .ref (aS 0))]) C dX2_pendingWork_3 rfl hl (by decide) rfl (fun ls hl => ?_)
  exact B4 FU _ h _ _ _ hP hD hS (lv_sub hl [2, 1, 0] rfl)
theorem dX2_placeOf_0 : decode cX2_placeOf 0 = .ok (.aload_n 0, 1) := by decide +kernel
theorem dX2_placeOf_1 : decode cX2_placeOf 1 = .ok (.getfield 35, 3) := by decide +kernel
theorem dX2_placeOf_4 : decode cX2_placeOf 4 = .ok (.iconst 0, 1) := by decide +kernel
theorem dX2_placeOf_5 : decode cX2_placeOf 5 = .ok (.iload_n 1, 1) := by decide +kernel
theorem dX2_placeOf_6 : decode cX2_placeOf 6 = .ok (.invokevirtual 95, 3) := by decide +kernel
theorem dX2_placeOf_9 : decode cX2_placeOf 9 = .ok (.bipush (-9), 2) := by decide +kernel
theorem dX2_placeOf_11 : decode cX2_placeOf 11 = .ok (.if_icmp .eq 5, 3) := by decide +kernel
theorem dX2_placeOf_14 : decode cX2_placeOf 14 = .ok (.iconst 1, 1) := by decide +kernel
theorem dX2_placeOf_15 : decode cX2_placeOf 15 = .ok (.ireturn, 1) := by decide +kernel
theorem dX2_placeOf_16 : decode cX2_placeOf 16 = .ok (.aload_n 0, 1) := by decide +kernel
theorem dX2_placeOf_17 : decode cX2_placeOf 17 = .ok (.getfield 38, 3) := by decide +kernel
theorem dX2_placeOf_20 : decode cX2_placeOf 20 = .ok (.iconst 0, 1) := by decide +kernel
theorem dX2_placeOf_21 : decode cX2_placeOf 21 = .ok (.iload_n 1, 1) := by decide +kernel
theorem dX2_placeOf_22 : decode cX2_placeOf 22 = .ok (.invokevirtual 95, 3) := by decide +kernel
theorem dX2_placeOf_25 : decode cX2_placeOf 25 = .ok (.istore_n 2, 1) := by decide +kernel
theorem dX2_placeOf_26 : decode cX2_placeOf 26 = .ok (.iload_n 2, 1) := by decide +kernel
theorem dX2_placeOf_27 : decode cX2_placeOf 27 = .ok (.bipush (-9), 2) := by decide +kernel
theorem dX2_placeOf_29 : decode cX2_placeOf 29 = .ok (.if_icmp .eq 15, 3) := by decide +kernel
theorem dX2_placeOf_32 : decode cX2_placeOf 32 = .ok (.aload_n 0, 1) := by decide +kernel
theorem dX2_placeOf_33 : decode cX2_placeOf 33 = .ok (.getfield 38, 3) := by decide +kernel
theorem dX2_placeOf_36 : decode cX2_placeOf 36 = .ok (.iload_n 2, 1) := by decide +kernel
theorem dX2_placeOf_37 : decode cX2_placeOf 37 = .ok (.iconst 5, 1) := by decide +kernel
theorem dX2_placeOf_38 : decode cX2_placeOf 38 = .ok (.invokevirtual 91, 3) := by decide +kernel
theorem dX2_placeOf_41 : decode cX2_placeOf 41 = .ok (.goto 4, 3) := by decide +kernel
theorem dX2_placeOf_44 : decode cX2_placeOf 44 = .ok (.iconst 0, 1) := by decide +kernel
theorem dX2_placeOf_45 : decode cX2_placeOf 45 = .ok (.ireturn, 1) := by decide +kernel
def bfX2_placeOf_45 (p1 : Int32) (S : StS) (s0 : Int32) : Option (Int32) :=
  some s0
def fX2_placeOf (p1 : Int32) (S : StS) : Option (Int32) :=
  (if (sfind 6 S (0 : Int32) p1) = (-9 : Int32) then nm ((sfind 7 S (0 : Int32) p1)) fun v2 => (if v2 = (-9 : Int32) then bfX2_placeOf_45 p1 S  ((0 : Int32)) else bfX2_placeOf_45 p1 S  ((sget 7 S v2 (5 : Int32)))) else some (1 : Int32))
set_option maxHeartbeats 4000000 in
set_option maxRecDepth 100000 in
theorem kX2_placeOf (l : Launch) (D : va_G) (cI cS : ClassId) (aS : Nat → Nat) (p1 : Int32) (S : StS) {q : Int32} (h : fX2_placeOf p1 S = some q) : Mc l D (tyL cI cS) false yX2_placeOf cX2_placeOf 3 (some .int) 3 [.ref (aS 0), .int p1] (wS cI aS S) (some (.int q)) (wS cI aS S) := by
  refine Mc_of RX2 (by decide +kernel) rfl wc_X2_placeOf (Nat.le_of_ble_eq_true rfl) ?_
  intro p e s m args below meth c A Q ls C hA hz hP hD hS hl RET
  have RETh : ∀ {pc : Nat} {ls : Array Slot} {H : Heap} {locs : List Loc} {x : Int32} , decode cX2_placeOf pc = .ok (.ireturn, 1) → some x = some q → va_P D vwCl (wS cI aS S) H → va_D A (wS cI aS S) → va_S A s.heap H locs → W p l e (rmL 3) s m args below meth c H locs 0 0 Q (F0 m pc ls [.int x]) := by
    intro pc ls H locs x hd h hP hD hS; cases h; exact RET (x_iret C hd) hP hD hS
  have B45 : ∀ (s0 : Int32), bfX2_placeOf_45 p1 S s0 = some q → ∀ (H : Heap) (locs : List Loc) (ls : Array Slot), va_P D vwCl (wS cI aS S) H → va_D A (wS cI aS S) → va_S A s.heap H locs → lv_has ls 3 [] → W p l e (rmL 3) s m args below meth c H locs 0 0 Q (F0 m 45 ls [.int s0]) := by
    intro s0 h H locs ls hP hD hS hl
    exact RETh dX2_placeOf_45 h hP hD hS
  refine x_aload_n C dX2_placeOf_0 rfl hl 0 rfl ?_
  refine x_get C inX2 hP 0 rfl rfl 6 (by decide) wf_X2_35 rfl dX2_placeOf_1 ?_
  refine x_iconst (v := (0 : Int32)) C dX2_placeOf_4 (by decide) ?_
  refine x_iload_n C dX2_placeOf_5 rfl hl 1 rfl ?_
  refine x_callV (As := [.int _, .int _]) (n := 2) C (kS_find l D cI cS aS _ 6 (by decide) _ _) (fun hh => nomatch hh) wm_X2_95 wi_X3_find we_X3_find wz_X3 wc_X3_find (by decide +kernel) rfl hP hD hS hA 13 1 rfl rfl rfl hl.1 dX2_placeOf_6 rfl (Nat.le_of_ble_eq_true rfl) ⟨Nat.le_of_ble_eq_true rfl, Nat.le_of_ble_eq_true rfl⟩ ⟨Nat.zero_le _, Nat.zero_le _⟩ (fun H locs hP hD hS => ?_)
  refine x_bipush (v := (-9 : Int32)) C dX2_placeOf_9 (by decide) ?_
  refine x_icmp_eq (tgt := 16) C h dX2_placeOf_11 (by decide) (fun h => ?_) (fun h => ?_)
  · refine x_aload_n C dX2_placeOf_16 rfl hl 0 rfl ?_
    refine x_get C inX2 hP 0 rfl rfl 7 (by decide) wf_X2_38 rfl dX2_placeOf_17 ?_
    refine x_iconst (v := (0 : Int32)) C dX2_placeOf_20 (by decide) ?_
    refine x_iload_n C dX2_placeOf_21 rfl hl 1 rfl ?_
    refine x_callV (As := [.int _, .int _]) (n := 2) C (kS_find l D cI cS aS _ 7 (by decide) _ _) (fun hh => nomatch hh) wm_X2_95 wi_X3_find we_X3_find wz_X3 wc_X3_find (by decide +kernel) rfl hP hD hS hA 15 1 rfl rfl rfl hl.1 dX2_placeOf_22 rfl (Nat.le_of_ble_eq_true rfl) ⟨Nat.le_of_ble_eq_true rfl, Nat.le_of_ble_eq_true rfl⟩ ⟨Nat.zero_le _, Nat.zero_le _⟩ (fun H locs hP hD hS => ?_)
    refine x_nmi h (fun v2 h => ?_)
    refine x_istore_n (lv' := [(2, .int v2), (0, .ref (aS 0)), (1, .int p1)]) C dX2_placeOf_25 rfl hl (by decide) rfl (fun ls hl => ?_)
    refine x_iload_n C dX2_placeOf_26 rfl hl 0 rfl ?_
    refine x_bipush (v := (-9 : Int32)) C dX2_placeOf_27 (by decide) ?_
    refine x_icmp_eq (tgt := 44) C h dX2_placeOf_29 (by decide) (fun h => ?_) (fun h => ?_)
    · refine x_iconst (v := (0 : Int32)) C dX2_placeOf_44 (by decide) ?_
      exact B45 _ h _ _ _ hP hD hS (lv_sub hl [] rfl)
    · refine x_aload_n C dX2_placeOf_32 rfl hl 1 rfl ?_
      refine x_get C inX2 hP 0 rfl rfl 7 (by decide) wf_X2_38 rfl dX2_placeOf_33 ?_
      refine x_iload_n C dX2_placeOf_36 rfl hl 0 rfl ?_
      refine x_iconst (v := (5 : Int32)) C dX2_placeOf_37 (by decide) ?_
      refine x_callV (As := [.int _, .int _]) (n := 2) C (kS_get l D cI cS aS _ 7 (by decide) _ _) (fun hh => nomatch hh) wm_X2_91 wi_X3_get we_X3_get wz_X3 wc_X3_get (by decide +kernel) rfl hP hD hS hA 15 1 rfl rfl rfl hl.1 dX2_placeOf_38 rfl (Nat.le_of_ble_eq_true rfl) ⟨Nat.le_of_ble_eq_true rfl, Nat.le_of_ble_eq_true rfl⟩ ⟨Nat.zero_le _, Nat.zero_le _⟩ (fun H locs hP hD hS => ?_)
      refine x_goto (tgt := 45) C dX2_placeOf_41 (by decide) ?_
      exact B45 _ h _ _ _ hP hD hS (lv_sub hl [] rfl)
  · refine x_iconst (v := (1 : Int32)) C dX2_placeOf_14 (by decide) ?_
    exact RETh dX2_placeOf_15 h hP hD hS
theorem dX2_total_0 : decode cX2_total 0 = .ok (.aload_n 0, 1) := by decide +kernel
theorem dX2_total_1 : decode cX2_total 1 = .ok (.getfield 20, 3) := by decide +kernel
theorem dX2_total_4 : decode cX2_total 4 = .ok (.iload_n 1, 1) := by decide +kernel
theorem dX2_total_5 : decode cX2_total 5 = .ok (.invokevirtual 87, 3) := by decide +kernel
theorem dX2_total_8 : decode cX2_total 8 = .ok (.ireturn, 1) := by decide +kernel
def fX2_total (p1 : Int32) (S : StS) : Option (Int32) :=
  some (ssum 1 S p1)
set_option maxHeartbeats 4000000 in
set_option maxRecDepth 100000 in
theorem kX2_total (l : Launch) (D : va_G) (cI cS : ClassId) (aS : Nat → Nat) (p1 : Int32) (S : StS) {q : Int32} (h : fX2_total p1 S = some q) : Mc l D (tyL cI cS) false yX2_total cX2_total 2 (some .int) 3 [.ref (aS 0), .int p1] (wS cI aS S) (some (.int q)) (wS cI aS S) := by
  refine Mc_of RX2 (by decide +kernel) rfl wc_X2_total (Nat.le_of_ble_eq_true rfl) ?_
  intro p e s m args below meth c A Q ls C hA hz hP hD hS hl RET
  have RETh : ∀ {pc : Nat} {ls : Array Slot} {H : Heap} {locs : List Loc} {x : Int32} , decode cX2_total pc = .ok (.ireturn, 1) → some x = some q → va_P D vwCl (wS cI aS S) H → va_D A (wS cI aS S) → va_S A s.heap H locs → W p l e (rmL 3) s m args below meth c H locs 0 0 Q (F0 m pc ls [.int x]) := by
    intro pc ls H locs x hd h hP hD hS; cases h; exact RET (x_iret C hd) hP hD hS
  refine x_aload_n C dX2_total_0 rfl hl 0 rfl ?_
  refine x_get C inX2 hP 0 rfl rfl 1 (by decide) wf_X2_20 rfl dX2_total_1 ?_
  refine x_iload_n C dX2_total_4 rfl hl 1 rfl ?_
  refine x_callV (As := [.int _]) (n := 1) C (kS_sumOf l D cI cS aS _ 1 (by decide) _) (fun hh => nomatch hh) wm_X2_87 wi_X3_sumOf we_X3_sumOf wz_X3 wc_X3_sumOf (by decide +kernel) rfl hP hD hS hA 3 1 rfl rfl rfl hl.1 dX2_total_5 rfl (Nat.le_of_ble_eq_true rfl) ⟨Nat.le_of_ble_eq_true rfl, Nat.le_of_ble_eq_true rfl⟩ ⟨Nat.zero_le _, Nat.zero_le _⟩ (fun H locs hP hD hS => ?_)
  exact RETh dX2_total_8 h hP hD hS
theorem dX4_pass_0 : decode cX4_pass 0 = .ok (.aload_n 0, 1) := by decide +kernel
theorem dX4_pass_1 : decode cX4_pass 1 = .ok (.iconst 2, 1) := by decide +kernel
theorem dX4_pass_2 : decode cX4_pass 2 = .ok (.invokevirtual 9, 3) := by decide +kernel
theorem dX4_pass_5 : decode cX4_pass 5 = .ok (.istore_n 1, 1) := by decide +kernel
theorem dX4_pass_6 : decode cX4_pass 6 = .ok (.aload_n 0, 1) := by decide +kernel
theorem dX4_pass_7 : decode cX4_pass 7 = .ok (.iconst 1, 1) := by decide +kernel
theorem dX4_pass_8 : decode cX4_pass 8 = .ok (.invokevirtual 9, 3) := by decide +kernel
theorem dX4_pass_11 : decode cX4_pass 11 = .ok (.istore_n 2, 1) := by decide +kernel
theorem dX4_pass_12 : decode cX4_pass 12 = .ok (.aload_n 0, 1) := by decide +kernel
theorem dX4_pass_13 : decode cX4_pass 13 = .ok (.getfield 15, 3) := by decide +kernel
theorem dX4_pass_16 : decode cX4_pass 16 = .ok (.istore_n 3, 1) := by decide +kernel
theorem dX4_pass_17 : decode cX4_pass 17 = .ok (.aload_n 0, 1) := by decide +kernel
theorem dX4_pass_18 : decode cX4_pass 18 = .ok (.invokestatic 19, 3) := by decide +kernel
theorem dX4_pass_21 : decode cX4_pass 21 = .ok (.aload_n 0, 1) := by decide +kernel
theorem dX4_pass_22 : decode cX4_pass 22 = .ok (.invokestatic 25, 3) := by decide +kernel
theorem dX4_pass_25 : decode cX4_pass 25 = .ok (.aload_n 0, 1) := by decide +kernel
theorem dX4_pass_26 : decode cX4_pass 26 = .ok (.invokestatic 28, 3) := by decide +kernel
theorem dX4_pass_29 : decode cX4_pass 29 = .ok (.aload_n 0, 1) := by decide +kernel
theorem dX4_pass_30 : decode cX4_pass 30 = .ok (.invokestatic 33, 3) := by decide +kernel
theorem dX4_pass_33 : decode cX4_pass 33 = .ok (.aload_n 0, 1) := by decide +kernel
theorem dX4_pass_34 : decode cX4_pass 34 = .ok (.invokestatic 36, 3) := by decide +kernel
theorem dX4_pass_37 : decode cX4_pass 37 = .ok (.aload_n 0, 1) := by decide +kernel
theorem dX4_pass_38 : decode cX4_pass 38 = .ok (.dup, 1) := by decide +kernel
theorem dX4_pass_39 : decode cX4_pass 39 = .ok (.getfield 39, 3) := by decide +kernel
theorem dX4_pass_42 : decode cX4_pass 42 = .ok (.iconst 1, 1) := by decide +kernel
theorem dX4_pass_43 : decode cX4_pass 43 = .ok (.iadd, 1) := by decide +kernel
theorem dX4_pass_44 : decode cX4_pass 44 = .ok (.putfield 39, 3) := by decide +kernel
theorem dX4_pass_47 : decode cX4_pass 47 = .ok (.aload_n 0, 1) := by decide +kernel
theorem dX4_pass_48 : decode cX4_pass 48 = .ok (.invokestatic 42, 3) := by decide +kernel
theorem dX4_pass_51 : decode cX4_pass 51 = .ok (.aload_n 0, 1) := by decide +kernel
theorem dX4_pass_52 : decode cX4_pass 52 = .ok (.invokestatic 45, 3) := by decide +kernel
theorem dX4_pass_55 : decode cX4_pass 55 = .ok (.aload_n 0, 1) := by decide +kernel
theorem dX4_pass_56 : decode cX4_pass 56 = .ok (.invokestatic 48, 3) := by decide +kernel
theorem dX4_pass_59 : decode cX4_pass 59 = .ok (.aload_n 0, 1) := by decide +kernel
theorem dX4_pass_60 : decode cX4_pass 60 = .ok (.getfield 39, 3) := by decide +kernel
theorem dX4_pass_63 : decode cX4_pass 63 = .ok (.iconst 1, 1) := by decide +kernel
theorem dX4_pass_64 : decode cX4_pass 64 = .ok (.isub, 1) := by decide +kernel
theorem dX4_pass_65 : decode cX4_pass 65 = .ok (.bipush 64, 2) := by decide +kernel
theorem dX4_pass_67 : decode cX4_pass 67 = .ok (.invokestatic 51, 3) := by decide +kernel
theorem dX4_pass_70 : decode cX4_pass 70 = .ok (.istore 4, 2) := by decide +kernel
theorem dX4_pass_72 : decode cX4_pass 72 = .ok (.aload_n 0, 1) := by decide +kernel
theorem dX4_pass_73 : decode cX4_pass 73 = .ok (.getfield 57, 3) := by decide +kernel
theorem dX4_pass_76 : decode cX4_pass 76 = .ok (.iload 4, 2) := by decide +kernel
theorem dX4_pass_78 : decode cX4_pass 78 = .ok (.iconst 0, 1) := by decide +kernel
theorem dX4_pass_79 : decode cX4_pass 79 = .ok (.aload_n 0, 1) := by decide +kernel
theorem dX4_pass_80 : decode cX4_pass 80 = .ok (.getfield 61, 3) := by decide +kernel
theorem dX4_pass_83 : decode cX4_pass 83 = .ok (.invokevirtual 64, 3) := by decide +kernel
theorem dX4_pass_86 : decode cX4_pass 86 = .ok (.invokevirtual 70, 3) := by decide +kernel
theorem dX4_pass_89 : decode cX4_pass 89 = .ok (.aload_n 0, 1) := by decide +kernel
theorem dX4_pass_90 : decode cX4_pass 90 = .ok (.getfield 57, 3) := by decide +kernel
theorem dX4_pass_93 : decode cX4_pass 93 = .ok (.iload 4, 2) := by decide +kernel
theorem dX4_pass_95 : decode cX4_pass 95 = .ok (.iconst 1, 1) := by decide +kernel
theorem dX4_pass_96 : decode cX4_pass 96 = .ok (.aload_n 0, 1) := by decide +kernel
theorem dX4_pass_97 : decode cX4_pass 97 = .ok (.iconst 2, 1) := by decide +kernel
theorem dX4_pass_98 : decode cX4_pass 98 = .ok (.invokevirtual 9, 3) := by decide +kernel
theorem dX4_pass_101 : decode cX4_pass 101 = .ok (.iload_n 1, 1) := by decide +kernel
theorem dX4_pass_102 : decode cX4_pass 102 = .ok (.isub, 1) := by decide +kernel
theorem dX4_pass_103 : decode cX4_pass 103 = .ok (.invokevirtual 70, 3) := by decide +kernel
theorem dX4_pass_106 : decode cX4_pass 106 = .ok (.aload_n 0, 1) := by decide +kernel
theorem dX4_pass_107 : decode cX4_pass 107 = .ok (.getfield 57, 3) := by decide +kernel
theorem dX4_pass_110 : decode cX4_pass 110 = .ok (.iload 4, 2) := by decide +kernel
theorem dX4_pass_112 : decode cX4_pass 112 = .ok (.iconst 2, 1) := by decide +kernel
theorem dX4_pass_113 : decode cX4_pass 113 = .ok (.aload_n 0, 1) := by decide +kernel
theorem dX4_pass_114 : decode cX4_pass 114 = .ok (.iconst 1, 1) := by decide +kernel
theorem dX4_pass_115 : decode cX4_pass 115 = .ok (.invokevirtual 9, 3) := by decide +kernel
theorem dX4_pass_118 : decode cX4_pass 118 = .ok (.iload_n 2, 1) := by decide +kernel
theorem dX4_pass_119 : decode cX4_pass 119 = .ok (.isub, 1) := by decide +kernel
theorem dX4_pass_120 : decode cX4_pass 120 = .ok (.invokevirtual 70, 3) := by decide +kernel
theorem dX4_pass_123 : decode cX4_pass 123 = .ok (.aload_n 0, 1) := by decide +kernel
theorem dX4_pass_124 : decode cX4_pass 124 = .ok (.getfield 57, 3) := by decide +kernel
theorem dX4_pass_127 : decode cX4_pass 127 = .ok (.iload 4, 2) := by decide +kernel
theorem dX4_pass_129 : decode cX4_pass 129 = .ok (.iconst 3, 1) := by decide +kernel
theorem dX4_pass_130 : decode cX4_pass 130 = .ok (.aload_n 0, 1) := by decide +kernel
theorem dX4_pass_131 : decode cX4_pass 131 = .ok (.getfield 15, 3) := by decide +kernel
theorem dX4_pass_134 : decode cX4_pass 134 = .ok (.iload_n 3, 1) := by decide +kernel
theorem dX4_pass_135 : decode cX4_pass 135 = .ok (.isub, 1) := by decide +kernel
theorem dX4_pass_136 : decode cX4_pass 136 = .ok (.invokevirtual 70, 3) := by decide +kernel
theorem dX4_pass_139 : decode cX4_pass 139 = .ok (.aload_n 0, 1) := by decide +kernel
theorem dX4_pass_140 : decode cX4_pass 140 = .ok (.aload_n 0, 1) := by decide +kernel
theorem dX4_pass_141 : decode cX4_pass 141 = .ok (.getfield 74, 3) := by decide +kernel
theorem dX4_pass_144 : decode cX4_pass 144 = .ok (.aload_n 0, 1) := by decide +kernel
theorem dX4_pass_145 : decode cX4_pass 145 = .ok (.getfield 61, 3) := by decide +kernel
theorem dX4_pass_148 : decode cX4_pass 148 = .ok (.invokevirtual 64, 3) := by decide +kernel
theorem dX4_pass_151 : decode cX4_pass 151 = .ok (.invokestatic 77, 3) := by decide +kernel
theorem dX4_pass_154 : decode cX4_pass 154 = .ok (.putfield 74, 3) := by decide +kernel
theorem dX4_pass_157 : decode cX4_pass 157 = .ok (.return_, 1) := by decide +kernel
def fX4_pass  (S : StS) : Option (StS) :=
  ob (fX2_total (2 : Int32) S) fun u20 => ob (fX2_total (1 : Int32) S) fun u21 => ob (fX0_createRequests S) fun u22 => ob (fX0_sendWaiting u22) fun u23 => ob (fX1_fillBackWorkers u23) fun u24 => ob (fX1_fillFrontWorkers u24) fun u25 => ob (fX1_work u25) fun u26 => nm (u26.1, upd u26.2 12 ((u26.2 12) + (1 : Int32))) fun S27 => ob (fX1_endBackWork S27) fun u28 => ob (fX1_endFrontWork u28) fun u29 => ob (fX0_abandonExpired u29) fun u30 => ob (fJ9_floorMod_7cf53 (((u30.2 12) - (1 : Int32))) (64 : Int32)) fun u31 => nm (sput 10 u30 u31 (0 : Int32) ((ssize 6 u30))) fun S32 => ob (fX2_total (2 : Int32) S32) fun u33 => nm (sput 10 S32 u31 (1 : Int32) ((u33 - u20))) fun S34 => ob (fX2_total (1 : Int32) S34) fun u35 => nm (sput 10 S34 u31 (2 : Int32) ((u35 - u21))) fun S36 => nm (sput 10 S36 u31 (3 : Int32) (((S36.2 16) - (S.2 16)))) fun S37 => nm (S37.1, upd S37.2 17 (if (S37.2 17) < (ssize 6 S37) then (ssize 6 S37) else (S37.2 17))) fun S38 => some S38
set_option maxHeartbeats 4000000 in
set_option maxRecDepth 100000 in
theorem kX4_pass (l : Launch) (D : va_G) (cI cS : ClassId) (aS : Nat → Nat)  (S : StS) {q : StS} (h : fX4_pass  S = some q) : Mc l D (tyL cI cS) false yX4_pass cX4_pass 5 none 7 [.ref (aS 0)] (wS cI aS S) none (wS cI aS q) := by
  refine Mc_of RX4 (by decide +kernel) rfl wc_X4_pass (Nat.le_of_ble_eq_true rfl) ?_
  intro p e s m args below meth c A Q ls C hA hz hP hD hS hl RET
  have RETh : ∀ {pc : Nat} {ls : Array Slot} {H : Heap} {locs : List Loc} {S1 : StS}, decode cX4_pass pc = .ok (.return_, 1) → some S1 = some q → va_P D vwCl (wS cI aS S1) H → va_D A (wS cI aS S1) → va_S A s.heap H locs → W p l e (rmL 7) s m args below meth c H locs 0 0 Q (F0 m pc ls []) := by
    intro pc ls H locs S1 hd h hP hD hS; cases h; exact RET (x_vret C hd) hP hD hS
  refine x_aload_n C dX4_pass_0 rfl hl 0 rfl ?_
  refine x_iconst (v := (2 : Int32)) C dX4_pass_1 (by decide) ?_
  obtain ⟨u20, hu20, h⟩ := ob_some h
  refine x_callV (As := [.int _]) (n := 1) C (kX2_total l D cI cS aS _ _ hu20) (fun hh => nomatch hh) wm_X4_9 wi_X2_total we_X2_total wz_X2 wc_X2_total (by decide +kernel) rfl hP hD hS hA 0 0 rfl rfl rfl hl.1 dX4_pass_2 rfl (Nat.le_of_ble_eq_true rfl) ⟨Nat.le_of_ble_eq_true rfl, Nat.le_of_ble_eq_true rfl⟩ ⟨Nat.zero_le _, Nat.zero_le _⟩ (fun H locs hP hD hS => ?_)
  refine x_istore_n (lv' := [(1, .int u20), (0, .ref (aS 0))]) C dX4_pass_5 rfl hl (by decide) rfl (fun ls hl => ?_)
  refine x_aload_n C dX4_pass_6 rfl hl 1 rfl ?_
  refine x_iconst (v := (1 : Int32)) C dX4_pass_7 (by decide) ?_
  obtain ⟨u21, hu21, h⟩ := ob_some h
  refine x_callV (As := [.int _]) (n := 1) C (kX2_total l D cI cS aS _ _ hu21) (fun hh => nomatch hh) wm_X4_9 wi_X2_total we_X2_total wz_X2 wc_X2_total (by decide +kernel) rfl hP hD hS hA 0 0 rfl rfl rfl hl.1 dX4_pass_8 rfl (Nat.le_of_ble_eq_true rfl) ⟨Nat.le_of_ble_eq_true rfl, Nat.le_of_ble_eq_true rfl⟩ ⟨Nat.zero_le _, Nat.zero_le _⟩ (fun H locs hP hD hS => ?_)
  refine x_istore_n (lv' := [(2, .int u21), (1, .int u20), (0, .ref (aS 0))]) C dX4_pass_11 rfl hl (by decide) rfl (fun ls hl => ?_)
  refine x_aload_n C dX4_pass_12 rfl hl 2 rfl ?_
  refine x_get C inX2 hP 0 rfl rfl 16 (by decide) wf_X4_15 rfl dX4_pass_13 ?_
  refine x_istore_n (lv' := [(3, .int (S.2 16)), (2, .int u21), (1, .int u20), (0, .ref (aS 0))]) C dX4_pass_16 rfl hl (by decide) rfl (fun ls hl => ?_)
  refine x_aload_n C dX4_pass_17 rfl hl 3 rfl ?_
  obtain ⟨u22, hu22, h⟩ := ob_some h
  refine x_callS (As := [.ref _]) (n := 1) C (kX0_createRequests l D cI cS aS _ hu22) (fun hh => nomatch hh) wm_X4_19 wt_X0_createRequests wz_X0 wc_X0_createRequests (by decide +kernel) rfl hP hD hS hA hl.1 dX4_pass_18 rfl (Nat.le_of_ble_eq_true rfl) ⟨Nat.le_of_ble_eq_true rfl, Nat.le_of_ble_eq_true rfl⟩ ⟨Nat.zero_le _, Nat.zero_le _⟩ (fun H locs hP hD hS => ?_)
  refine x_aload_n C dX4_pass_21 rfl hl 3 rfl ?_
  obtain ⟨u23, hu23, h⟩ := ob_some h
  refine x_callS (As := [.ref _]) (n := 1) C (kX0_sendWaiting l D cI cS aS _ hu23) (fun hh => nomatch hh) wm_X4_25 wt_X0_sendWaiting wz_X0 wc_X0_sendWaiting (by decide +kernel) rfl hP hD hS hA hl.1 dX4_pass_22 rfl (Nat.le_of_ble_eq_true rfl) ⟨Nat.le_of_ble_eq_true rfl, Nat.le_of_ble_eq_true rfl⟩ ⟨Nat.zero_le _, Nat.zero_le _⟩ (fun H locs hP hD hS => ?_)
  refine x_aload_n C dX4_pass_25 rfl hl 3 rfl ?_
  obtain ⟨u24, hu24, h⟩ := ob_some h
  refine x_callS (As := [.ref _]) (n := 1) C (kX1_fillBackWorkers l D cI cS aS _ hu24) (fun hh => nomatch hh) wm_X4_28 wt_X1_fillBackWorkers wz_X1 wc_X1_fillBackWorkers (by decide +kernel) rfl hP hD hS hA hl.1 dX4_pass_26 rfl (Nat.le_of_ble_eq_true rfl) ⟨Nat.le_of_ble_eq_true rfl, Nat.le_of_ble_eq_true rfl⟩ ⟨Nat.zero_le _, Nat.zero_le _⟩ (fun H locs hP hD hS => ?_)
  refine x_aload_n C dX4_pass_29 rfl hl 3 rfl ?_
  obtain ⟨u25, hu25, h⟩ := ob_some h
  refine x_callS (As := [.ref _]) (n := 1) C (kX1_fillFrontWorkers l D cI cS aS _ hu25) (fun hh => nomatch hh) wm_X4_33 wt_X1_fillFrontWorkers wz_X1 wc_X1_fillFrontWorkers (by decide +kernel) rfl hP hD hS hA hl.1 dX4_pass_30 rfl (Nat.le_of_ble_eq_true rfl) ⟨Nat.le_of_ble_eq_true rfl, Nat.le_of_ble_eq_true rfl⟩ ⟨Nat.zero_le _, Nat.zero_le _⟩ (fun H locs hP hD hS => ?_)
  refine x_aload_n C dX4_pass_33 rfl hl 3 rfl ?_
  obtain ⟨u26, hu26, h⟩ := ob_some h
  refine x_callS (As := [.ref _]) (n := 1) C (kX1_work l D cI cS aS _ hu26) (fun hh => nomatch hh) wm_X4_36 wt_X1_work wz_X1 wc_X1_work (by decide +kernel) rfl hP hD hS hA hl.1 dX4_pass_34 rfl (Nat.le_of_ble_eq_true rfl) ⟨Nat.le_of_ble_eq_true rfl, Nat.le_of_ble_eq_true rfl⟩ ⟨Nat.zero_le _, Nat.zero_le _⟩ (fun H locs hP hD hS => ?_)
  refine x_aload_n C dX4_pass_37 rfl hl 3 rfl ?_
  refine x_dup C dX4_pass_38 rfl ?_
  refine x_get C inX2 hP 0 rfl rfl 12 (by decide) wf_X4_39 rfl dX4_pass_39 ?_
  refine x_iconst (v := (1 : Int32)) C dX4_pass_42 (by decide) ?_
  refine x_iadd C dX4_pass_43 ?_
  refine x_putM (wS cI aS) C h inX2 tyX2 tyX2_ok nmX2 hP hD hS 0 rfl rfl 12 (by decide) wf_X4_39 rfl (ft := .int) (by decide +kernel) rfl rfl (Nat.le_of_ble_eq_true rfl) rfl dX4_pass_44 (fun S27 h H locs hP hD hS => ?_)
  refine x_aload_n C dX4_pass_47 rfl hl 3 rfl ?_
  obtain ⟨u28, hu28, h⟩ := ob_some h
  refine x_callS (As := [.ref _]) (n := 1) C (kX1_endBackWork l D cI cS aS _ hu28) (fun hh => nomatch hh) wm_X4_42 wt_X1_endBackWork wz_X1 wc_X1_endBackWork (by decide +kernel) rfl hP hD hS hA hl.1 dX4_pass_48 rfl (Nat.le_of_ble_eq_true rfl) ⟨Nat.le_of_ble_eq_true rfl, Nat.le_of_ble_eq_true rfl⟩ ⟨Nat.zero_le _, Nat.zero_le _⟩ (fun H locs hP hD hS => ?_)
  refine x_aload_n C dX4_pass_51 rfl hl 3 rfl ?_
  obtain ⟨u29, hu29, h⟩ := ob_some h
  refine x_callS (As := [.ref _]) (n := 1) C (kX1_endFrontWork l D cI cS aS _ hu29) (fun hh => nomatch hh) wm_X4_45 wt_X1_endFrontWork wz_X1 wc_X1_endFrontWork (by decide +kernel) rfl hP hD hS hA hl.1 dX4_pass_52 rfl (Nat.le_of_ble_eq_true rfl) ⟨Nat.le_of_ble_eq_true rfl, Nat.le_of_ble_eq_true rfl⟩ ⟨Nat.zero_le _, Nat.zero_le _⟩ (fun H locs hP hD hS => ?_)
  refine x_aload_n C dX4_pass_55 rfl hl 3 rfl ?_
  obtain ⟨u30, hu30, h⟩ := ob_some h
  refine x_callS (As := [.ref _]) (n := 1) C (kX0_abandonExpired l D cI cS aS _ hu30) (fun hh => nomatch hh) wm_X4_48 wt_X0_abandonExpired wz_X0 wc_X0_abandonExpired (by decide +kernel) rfl hP hD hS hA hl.1 dX4_pass_56 rfl (Nat.le_of_ble_eq_true rfl) ⟨Nat.le_of_ble_eq_true rfl, Nat.le_of_ble_eq_true rfl⟩ ⟨Nat.zero_le _, Nat.zero_le _⟩ (fun H locs hP hD hS => ?_)
  refine x_aload_n C dX4_pass_59 rfl hl 3 rfl ?_
  refine x_get C inX2 hP 0 rfl rfl 12 (by decide) wf_X4_39 rfl dX4_pass_60 ?_
  refine x_iconst (v := (1 : Int32)) C dX4_pass_63 (by decide) ?_
  refine x_isub C dX4_pass_64 ?_
  refine x_bipush (v := (64 : Int32)) C dX4_pass_65 (by decide) ?_
  obtain ⟨u31, hu31, h⟩ := ob_some h
  refine x_callS (As := [.int _, .int _]) (n := 2) C (kJ9_floorMod_7cf53 l D cI cS _ _ _ hu31) (fun hh => nomatch hh) wm_X4_51 wt_J9_floorMod_7cf53 wz_J9 wc_J9_floorMod_7cf53 (by decide +kernel) rfl hP hD hS hA hl.1 dX4_pass_67 rfl (Nat.le_of_ble_eq_true rfl) ⟨Nat.le_of_ble_eq_true rfl, Nat.le_of_ble_eq_true rfl⟩ ⟨Nat.zero_le _, Nat.zero_le _⟩ (fun H locs hP hD hS => ?_)
  refine x_istore (lv' := [(4, .int u31), (3, .int (S.2 16)), (2, .int u21), (1, .int u20), (0, .ref (aS 0))]) C dX4_pass_70 hl (by decide) rfl (fun ls hl => ?_)
  refine x_aload_n C dX4_pass_72 rfl hl 4 rfl ?_
  refine x_get C inX2 hP 0 rfl rfl 10 (by decide) wf_X4_57 rfl dX4_pass_73 ?_
  refine x_iload C dX4_pass_76 hl 0 rfl ?_
  refine x_iconst (v := (0 : Int32)) C dX4_pass_78 (by decide) ?_
  refine x_aload_n C dX4_pass_79 rfl hl 4 rfl ?_
  refine x_get C inX2 hP 0 rfl rfl 6 (by decide) wf_X4_61 rfl dX4_pass_80 ?_
  refine x_callV (As := []) (n := 0) C (kS_size l D cI cS aS _ 6 (by decide)) (fun hh => nomatch hh) wm_X4_64 wi_X3_size we_X3_size wz_X3 wc_X3_size (by decide +kernel) rfl hP hD hS hA 13 1 rfl rfl rfl hl.1 dX4_pass_83 rfl (Nat.le_of_ble_eq_true rfl) ⟨Nat.le_of_ble_eq_true rfl, Nat.le_of_ble_eq_true rfl⟩ ⟨Nat.zero_le _, Nat.zero_le _⟩ (fun H locs hP hD hS => ?_)
  refine x_callV (As := [.int _, .int _, .int _]) (n := 3) C (kS_put l D cI cS aS _ 10 (by decide) _ _ _) (fun hh => nomatch hh) wm_X4_70 wi_X3_put we_X3_put wz_X3 wc_X3_put (by decide +kernel) rfl hP hD hS hA 21 1 rfl rfl rfl hl.1 dX4_pass_86 rfl (Nat.le_of_ble_eq_true rfl) ⟨Nat.le_of_ble_eq_true rfl, Nat.le_of_ble_eq_true rfl⟩ ⟨Nat.zero_le _, Nat.zero_le _⟩ (fun H locs hP hD hS => ?_)
  refine x_nmS (wS cI aS) h hP hD (fun S32 h hP hD => ?_)
  refine x_aload_n C dX4_pass_89 rfl hl 4 rfl ?_
  refine x_get C inX2 hP 0 rfl rfl 10 (by decide) wf_X4_57 rfl dX4_pass_90 ?_
  refine x_iload C dX4_pass_93 hl 0 rfl ?_
  refine x_iconst (v := (1 : Int32)) C dX4_pass_95 (by decide) ?_
  refine x_aload_n C dX4_pass_96 rfl hl 4 rfl ?_
  refine x_iconst (v := (2 : Int32)) C dX4_pass_97 (by decide) ?_
  obtain ⟨u33, hu33, h⟩ := ob_some h
  refine x_callV (As := [.int _]) (n := 1) C (kX2_total l D cI cS aS _ _ hu33) (fun hh => nomatch hh) wm_X4_9 wi_X2_total we_X2_total wz_X2 wc_X2_total (by decide +kernel) rfl hP hD hS hA 0 0 rfl rfl rfl hl.1 dX4_pass_98 rfl (Nat.le_of_ble_eq_true rfl) ⟨Nat.le_of_ble_eq_true rfl, Nat.le_of_ble_eq_true rfl⟩ ⟨Nat.zero_le _, Nat.zero_le _⟩ (fun H locs hP hD hS => ?_)
  refine x_iload_n C dX4_pass_101 rfl hl 3 rfl ?_
  refine x_isub C dX4_pass_102 ?_
  refine x_callV (As := [.int _, .int _, .int _]) (n := 3) C (kS_put l D cI cS aS _ 10 (by decide) _ _ _) (fun hh => nomatch hh) wm_X4_70 wi_X3_put we_X3_put wz_X3 wc_X3_put (by decide +kernel) rfl hP hD hS hA 21 1 rfl rfl rfl hl.1 dX4_pass_103 rfl (Nat.le_of_ble_eq_true rfl) ⟨Nat.le_of_ble_eq_true rfl, Nat.le_of_ble_eq_true rfl⟩ ⟨Nat.zero_le _, Nat.zero_le _⟩ (fun H locs hP hD hS => ?_)
  refine x_nmS (wS cI aS) h hP hD (fun S34 h hP hD => ?_)
  refine x_aload_n C dX4_pass_106 rfl hl 4 rfl ?_
  refine x_get C inX2 hP 0 rfl rfl 10 (by decide) wf_X4_57 rfl dX4_pass_107 ?_
  refine x_iload C dX4_pass_110 hl 0 rfl ?_
  refine x_iconst (v := (2 : Int32)) C dX4_pass_112 (by decide) ?_
  refine x_aload_n C dX4_pass_113 rfl hl 4 rfl ?_
  refine x_iconst (v := (1 : Int32)) C dX4_pass_114 (by decide) ?_
  obtain ⟨u35, hu35, h⟩ := ob_some h
  refine x_callV (As := [.int _]) (n := 1) C (kX2_total l D cI cS aS _ _ hu35) (fun hh => nomatch hh) wm_X4_9 wi_X2_total we_X2_total wz_X2 wc_X2_total (by decide +kernel) rfl hP hD hS hA 0 0 rfl rfl rfl hl.1 dX4_pass_115 rfl (Nat.le_of_ble_eq_true rfl) ⟨Nat.le_of_ble_eq_true rfl, Nat.le_of_ble_eq_true rfl⟩ ⟨Nat.zero_le _, Nat.zero_le _⟩ (fun H locs hP hD hS => ?_)
  refine x_iload_n C dX4_pass_118 rfl hl 2 rfl ?_
  refine x_isub C dX4_pass_119 ?_
  refine x_callV (As := [.int _, .int _, .int _]) (n := 3) C (kS_put l D cI cS aS _ 10 (by decide) _ _ _) (fun hh => nomatch hh) wm_X4_70 wi_X3_put we_X3_put wz_X3 wc_X3_put (by decide +kernel) rfl hP hD hS hA 21 1 rfl rfl rfl hl.1 dX4_pass_120 rfl (Nat.le_of_ble_eq_true rfl) ⟨Nat.le_of_ble_eq_true rfl, Nat.le_of_ble_eq_true rfl⟩ ⟨Nat.zero_le _, Nat.zero_le _⟩ (fun H locs hP hD hS => ?_)
  refine x_nmS (wS cI aS) h hP hD (fun S36 h hP hD => ?_)
  refine x_aload_n C dX4_pass_123 rfl hl 4 rfl ?_
  refine x_get C inX2 hP 0 rfl rfl 10 (by decide) wf_X4_57 rfl dX4_pass_124 ?_
  refine x_iload C dX4_pass_127 hl 0 rfl ?_
  refine x_iconst (v := (3 : Int32)) C dX4_pass_129 (by decide) ?_
  refine x_aload_n C dX4_pass_130 rfl hl 4 rfl ?_
  refine x_get C inX2 hP 0 rfl rfl 16 (by decide) wf_X4_15 rfl dX4_pass_131 ?_
  refine x_iload_n C dX4_pass_134 rfl hl 1 rfl ?_
  refine x_isub C dX4_pass_135 ?_
  refine x_callV (As := [.int _, .int _, .int _]) (n := 3) C (kS_put l D cI cS aS _ 10 (by decide) _ _ _) (fun hh => nomatch hh) wm_X4_70 wi_X3_put we_X3_put wz_X3 wc_X3_put (by decide +kernel) rfl hP hD hS hA 21 1 rfl rfl rfl hl.1 dX4_pass_136 rfl (Nat.le_of_ble_eq_true rfl) ⟨Nat.le_of_ble_eq_true rfl, Nat.le_of_ble_eq_true rfl⟩ ⟨Nat.zero_le _, Nat.zero_le _⟩ (fun H locs hP hD hS => ?_)
  refine x_nmS (wS cI aS) h hP hD (fun S37 h hP hD => ?_)
  refine x_aload_n C dX4_pass_139 rfl hl 4 rfl ?_
  refine x_aload_n C dX4_pass_140 rfl hl 4 rfl ?_
  refine x_get C inX2 hP 0 rfl rfl 17 (by decide) wf_X4_74 rfl dX4_pass_141 ?_
  refine x_aload_n C dX4_pass_144 rfl hl 4 rfl ?_
  refine x_get C inX2 hP 0 rfl rfl 6 (by decide) wf_X4_61 rfl dX4_pass_145 ?_
  refine x_callV (As := []) (n := 0) C (kS_size l D cI cS aS _ 6 (by decide)) (fun hh => nomatch hh) wm_X4_64 wi_X3_size we_X3_size wz_X3 wc_X3_size (by decide +kernel) rfl hP hD hS hA 13 1 rfl rfl rfl hl.1 dX4_pass_148 rfl (Nat.le_of_ble_eq_true rfl) ⟨Nat.le_of_ble_eq_true rfl, Nat.le_of_ble_eq_true rfl⟩ ⟨Nat.zero_le _, Nat.zero_le _⟩ (fun H locs hP hD hS => ?_)
  refine x_max C hl.1 wm_X4_77 wt_J9_max_7cf53 wz_J9 wc_J9_max_7cf53 (by decide) (Nat.le_of_ble_eq_true rfl) ⟨Nat.zero_le _, Nat.zero_le _⟩ dX4_pass_151 ?_
  refine x_putM (wS cI aS) C h inX2 tyX2 tyX2_ok nmX2 hP hD hS 0 rfl rfl 17 (by decide) wf_X4_74 rfl (ft := .int) (by decide +kernel) rfl rfl (Nat.le_of_ble_eq_true rfl) rfl dX4_pass_154 (fun S38 h H locs hP hD hS => ?_)
  exact RETh dX4_pass_157 h hP hD hS
