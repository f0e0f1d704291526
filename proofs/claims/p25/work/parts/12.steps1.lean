theorem dX0_draw_0 : decode cX0_draw 0 = .ok (.aload_n 0, 1) := by decide +kernel
theorem dX0_draw_1 : decode cX0_draw 1 = .ok (.aload_n 0, 1) := by decide +kernel
theorem dX0_draw_2 : decode cX0_draw 2 = .ok (.getfield 112, 3) := by decide +kernel
theorem dX0_draw_5 : decode cX0_draw 5 = .ok (.ldc 115, 2) := by decide +kernel
theorem dX0_draw_7 : decode cX0_draw 7 = .ok (.imul, 1) := by decide +kernel
theorem dX0_draw_8 : decode cX0_draw 8 = .ok (.sipush 12345, 3) := by decide +kernel
theorem dX0_draw_11 : decode cX0_draw 11 = .ok (.iadd, 1) := by decide +kernel
theorem dX0_draw_12 : decode cX0_draw 12 = .ok (.putfield 112, 3) := by decide +kernel
theorem dX0_draw_15 : decode cX0_draw 15 = .ok (.aload_n 0, 1) := by decide +kernel
theorem dX0_draw_16 : decode cX0_draw 16 = .ok (.getfield 112, 3) := by decide +kernel
theorem dX0_draw_19 : decode cX0_draw 19 = .ok (.bipush 16, 2) := by decide +kernel
theorem dX0_draw_21 : decode cX0_draw 21 = .ok (.iushr, 1) := by decide +kernel
theorem dX0_draw_22 : decode cX0_draw 22 = .ok (.sipush 32767, 3) := by decide +kernel
theorem dX0_draw_25 : decode cX0_draw 25 = .ok (.iand, 1) := by decide +kernel
theorem dX0_draw_26 : decode cX0_draw 26 = .ok (.ireturn, 1) := by decide +kernel
def fX0_draw  (S : StS) : Option (Int32 × (StS)) :=
  nm (S.1, upd S.2 13 (((S.2 13) * (1103515245 : Int32)) + (12345 : Int32))) fun S2 => some (((((S2.2 13)).toUInt32 >>> (((16 : Int32)).toUInt32 &&& Int32.toUInt32 31)).toInt32 &&& (32767 : Int32)), S2)
set_option maxHeartbeats 4000000 in
set_option maxRecDepth 100000 in
theorem kX0_draw (l : Launch) (D : va_G) (cI cS : ClassId) (aS : Nat → Nat)  (S : StS) {q : Int32 × (StS)} (h : fX0_draw  S = some q) : Mc l D (tyL cI cS) false yX0_draw cX0_draw 1 (some .int) 1 [.ref (aS 0)] (wS cI aS S) (some (.int q.1)) (wS cI aS q.2) := by
  refine Mc_of RX0 (by decide +kernel) rfl wc_X0_draw (Nat.le_of_ble_eq_true rfl) ?_
  intro p e s m args below meth c A Q ls C hA hz hP hD hS hl RET
  have RETh : ∀ {pc : Nat} {ls : Array Slot} {H : Heap} {locs : List Loc} {x : Int32} {S1 : StS}, decode cX0_draw pc = .ok (.ireturn, 1) → some (x, S1) = some q → va_P D vwCl (wS cI aS S1) H → va_D A (wS cI aS S1) → va_S A s.heap H locs → W p l e (rmL 1) s m args below meth c H locs 0 0 Q (F0 m pc ls [.int x]) := by
    intro pc ls H locs x S1 hd h hP hD hS; cases h; exact RET (x_iret C hd) hP hD hS
  refine x_aload_n C dX0_draw_0 rfl hl 0 rfl ?_
  refine x_aload_n C dX0_draw_1 rfl hl 0 rfl ?_
  refine x_get C inX2 hP 0 rfl rfl 13 (by decide) wf_X0_112 rfl dX0_draw_2 ?_
  refine x_ldc C wq_X0_115 dX0_draw_5 ?_
  refine x_imul C dX0_draw_7 ?_
  refine x_sipush (v := (12345 : Int32)) C dX0_draw_8 (by decide) ?_
  refine x_iadd C dX0_draw_11 ?_
  refine x_putM (wS cI aS) C h inX2 tyX2 tyX2_ok nmX2 hP hD hS 0 rfl rfl 13 (by decide) wf_X0_112 rfl (ft := .int) (by decide +kernel) rfl rfl (Nat.le_of_ble_eq_true rfl) rfl dX0_draw_12 (fun S2 h H locs hP hD hS => ?_)
  refine x_aload_n C dX0_draw_15 rfl hl 0 rfl ?_
  refine x_get C inX2 hP 0 rfl rfl 13 (by decide) wf_X0_112 rfl dX0_draw_16 ?_
  refine x_bipush (v := (16 : Int32)) C dX0_draw_19 (by decide) ?_
  refine x_iushr C dX0_draw_21 ?_
  refine x_sipush (v := (32767 : Int32)) C dX0_draw_22 (by decide) ?_
  refine x_iand C dX0_draw_25 ?_
  exact RETh dX0_draw_26 h hP hD hS
theorem dX0_delay_0 : decode cX0_delay 0 = .ok (.aload_n 0, 1) := by decide +kernel
theorem dX0_delay_1 : decode cX0_delay 1 = .ok (.getfield 37, 3) := by decide +kernel
theorem dX0_delay_4 : decode cX0_delay 4 = .ok (.iload_n 2, 1) := by decide +kernel
theorem dX0_delay_5 : decode cX0_delay 5 = .ok (.iconst 5, 1) := by decide +kernel
theorem dX0_delay_6 : decode cX0_delay 6 = .ok (.invokevirtual 41, 3) := by decide +kernel
theorem dX0_delay_9 : decode cX0_delay 9 = .ok (.istore_n 3, 1) := by decide +kernel
theorem dX0_delay_10 : decode cX0_delay 10 = .ok (.aload_n 0, 1) := by decide +kernel
theorem dX0_delay_11 : decode cX0_delay 11 = .ok (.getfield 37, 3) := by decide +kernel
theorem dX0_delay_14 : decode cX0_delay 14 = .ok (.iload_n 2, 1) := by decide +kernel
theorem dX0_delay_15 : decode cX0_delay 15 = .ok (.bipush 6, 2) := by decide +kernel
theorem dX0_delay_17 : decode cX0_delay 17 = .ok (.invokevirtual 41, 3) := by decide +kernel
theorem dX0_delay_20 : decode cX0_delay 20 = .ok (.istore 4, 2) := by decide +kernel
theorem dX0_delay_22 : decode cX0_delay 22 = .ok (.iconst 1, 1) := by decide +kernel
theorem dX0_delay_23 : decode cX0_delay 23 = .ok (.iload_n 3, 1) := by decide +kernel
theorem dX0_delay_24 : decode cX0_delay 24 = .ok (.aload_n 0, 1) := by decide +kernel
theorem dX0_delay_25 : decode cX0_delay 25 = .ok (.getfield 69, 3) := by decide +kernel
theorem dX0_delay_28 : decode cX0_delay 28 = .ok (.iload_n 1, 1) := by decide +kernel
theorem dX0_delay_29 : decode cX0_delay 29 = .ok (.iconst 3, 1) := by decide +kernel
theorem dX0_delay_30 : decode cX0_delay 30 = .ok (.invokevirtual 41, 3) := by decide +kernel
theorem dX0_delay_33 : decode cX0_delay 33 = .ok (.iconst 1, 1) := by decide +kernel
theorem dX0_delay_34 : decode cX0_delay 34 = .ok (.isub, 1) := by decide +kernel
theorem dX0_delay_35 : decode cX0_delay 35 = .ok (.ishl, 1) := by decide +kernel
theorem dX0_delay_36 : decode cX0_delay 36 = .ok (.iload 4, 2) := by decide +kernel
theorem dX0_delay_38 : decode cX0_delay 38 = .ok (.invokestatic 61, 3) := by decide +kernel
theorem dX0_delay_41 : decode cX0_delay 41 = .ok (.invokestatic 105, 3) := by decide +kernel
theorem dX0_delay_44 : decode cX0_delay 44 = .ok (.istore 5, 2) := by decide +kernel
theorem dX0_delay_46 : decode cX0_delay 46 = .ok (.aload_n 0, 1) := by decide +kernel
theorem dX0_delay_47 : decode cX0_delay 47 = .ok (.getfield 37, 3) := by decide +kernel
theorem dX0_delay_50 : decode cX0_delay 50 = .ok (.iload_n 2, 1) := by decide +kernel
theorem dX0_delay_51 : decode cX0_delay 51 = .ok (.bipush 7, 2) := by decide +kernel
theorem dX0_delay_53 : decode cX0_delay 53 = .ok (.invokevirtual 41, 3) := by decide +kernel
theorem dX0_delay_56 : decode cX0_delay 56 = .ok (.tableswitch 106 1 3 #[28, 38, 58], 28) := by decide +kernel
theorem dX0_delay_84 : decode cX0_delay 84 = .ok (.iconst 1, 1) := by decide +kernel
theorem dX0_delay_85 : decode cX0_delay 85 = .ok (.aload_n 0, 1) := by decide +kernel
theorem dX0_delay_86 : decode cX0_delay 86 = .ok (.invokestatic 108, 3) := by decide +kernel
theorem dX0_delay_89 : decode cX0_delay 89 = .ok (.iload 5, 2) := by decide +kernel
theorem dX0_delay_91 : decode cX0_delay 91 = .ok (.irem, 1) := by decide +kernel
theorem dX0_delay_92 : decode cX0_delay 92 = .ok (.iadd, 1) := by decide +kernel
theorem dX0_delay_93 : decode cX0_delay 93 = .ok (.ireturn, 1) := by decide +kernel
theorem dX0_delay_94 : decode cX0_delay 94 = .ok (.iload 5, 2) := by decide +kernel
theorem dX0_delay_96 : decode cX0_delay 96 = .ok (.iload 5, 2) := by decide +kernel
theorem dX0_delay_98 : decode cX0_delay 98 = .ok (.iconst 2, 1) := by decide +kernel
theorem dX0_delay_99 : decode cX0_delay 99 = .ok (.idiv, 1) := by decide +kernel
theorem dX0_delay_100 : decode cX0_delay 100 = .ok (.isub, 1) := by decide +kernel
theorem dX0_delay_101 : decode cX0_delay 101 = .ok (.aload_n 0, 1) := by decide +kernel
theorem dX0_delay_102 : decode cX0_delay 102 = .ok (.invokestatic 108, 3) := by decide +kernel
theorem dX0_delay_105 : decode cX0_delay 105 = .ok (.iload 5, 2) := by decide +kernel
theorem dX0_delay_107 : decode cX0_delay 107 = .ok (.iconst 2, 1) := by decide +kernel
theorem dX0_delay_108 : decode cX0_delay 108 = .ok (.idiv, 1) := by decide +kernel
theorem dX0_delay_109 : decode cX0_delay 109 = .ok (.iconst 1, 1) := by decide +kernel
theorem dX0_delay_110 : decode cX0_delay 110 = .ok (.iadd, 1) := by decide +kernel
theorem dX0_delay_111 : decode cX0_delay 111 = .ok (.irem, 1) := by decide +kernel
theorem dX0_delay_112 : decode cX0_delay 112 = .ok (.iadd, 1) := by decide +kernel
theorem dX0_delay_113 : decode cX0_delay 113 = .ok (.ireturn, 1) := by decide +kernel
theorem dX0_delay_114 : decode cX0_delay 114 = .ok (.aload_n 0, 1) := by decide +kernel
theorem dX0_delay_115 : decode cX0_delay 115 = .ok (.getfield 69, 3) := by decide +kernel
theorem dX0_delay_118 : decode cX0_delay 118 = .ok (.iload_n 1, 1) := by decide +kernel
theorem dX0_delay_119 : decode cX0_delay 119 = .ok (.bipush 6, 2) := by decide +kernel
theorem dX0_delay_121 : decode cX0_delay 121 = .ok (.invokevirtual 41, 3) := by decide +kernel
theorem dX0_delay_124 : decode cX0_delay 124 = .ok (.istore 6, 2) := by decide +kernel
theorem dX0_delay_126 : decode cX0_delay 126 = .ok (.iconst 0, 1) := by decide +kernel
theorem dX0_delay_127 : decode cX0_delay 127 = .ok (.iload 6, 2) := by decide +kernel
theorem dX0_delay_129 : decode cX0_delay 129 = .ok (.ifCond .ne 7, 3) := by decide +kernel
theorem dX0_delay_132 : decode cX0_delay 132 = .ok (.iload_n 3, 1) := by decide +kernel
theorem dX0_delay_133 : decode cX0_delay 133 = .ok (.goto 5, 3) := by decide +kernel
theorem dX0_delay_136 : decode cX0_delay 136 = .ok (.iload 6, 2) := by decide +kernel
theorem dX0_delay_138 : decode cX0_delay 138 = .ok (.invokestatic 105, 3) := by decide +kernel
theorem dX0_delay_141 : decode cX0_delay 141 = .ok (.istore 7, 2) := by decide +kernel
theorem dX0_delay_143 : decode cX0_delay 143 = .ok (.iload_n 3, 1) := by decide +kernel
theorem dX0_delay_144 : decode cX0_delay 144 = .ok (.aload_n 0, 1) := by decide +kernel
theorem dX0_delay_145 : decode cX0_delay 145 = .ok (.invokestatic 108, 3) := by decide +kernel
theorem dX0_delay_148 : decode cX0_delay 148 = .ok (.iconst 2, 1) := by decide +kernel
theorem dX0_delay_149 : decode cX0_delay 149 = .ok (.iload 7, 2) := by decide +kernel
theorem dX0_delay_151 : decode cX0_delay 151 = .ok (.imul, 1) := by decide +kernel
theorem dX0_delay_152 : decode cX0_delay 152 = .ok (.iconst 1, 1) := by decide +kernel
theorem dX0_delay_153 : decode cX0_delay 153 = .ok (.iadd, 1) := by decide +kernel
theorem dX0_delay_154 : decode cX0_delay 154 = .ok (.irem, 1) := by decide +kernel
theorem dX0_delay_155 : decode cX0_delay 155 = .ok (.iadd, 1) := by decide +kernel
theorem dX0_delay_156 : decode cX0_delay 156 = .ok (.iload 4, 2) := by decide +kernel
theorem dX0_delay_158 : decode cX0_delay 158 = .ok (.invokestatic 61, 3) := by decide +kernel
theorem dX0_delay_161 : decode cX0_delay 161 = .ok (.ireturn, 1) := by decide +kernel
theorem dX0_delay_162 : decode cX0_delay 162 = .ok (.iload 5, 2) := by decide +kernel
theorem dX0_delay_164 : decode cX0_delay 164 = .ok (.ireturn, 1) := by decide +kernel
def bfX0_delay_138 (p2 : Int32) (p3 : Int32) (x3 : Int32) (x4 : Int32) (s0 : Int32) (s1 : Int32) (S : StS) : Option (Int32 × (StS)) :=
  nm ((if s0 < s1 then s1 else s0)) fun v9 => ob (fX0_draw S) fun u10 => (if (((2 : Int32) * v9) + (1 : Int32)) = 0 then none else some ((if x4 < (x3 + (u10.1 - u10.1 / (((2 : Int32) * v9) + (1 : Int32)) * (((2 : Int32) * v9) + (1 : Int32)))) then x4 else (x3 + (u10.1 - u10.1 / (((2 : Int32) * v9) + (1 : Int32)) * (((2 : Int32) * v9) + (1 : Int32))))), u10.2))
def fX0_delay (p2 : Int32) (p3 : Int32) (S : StS) : Option (Int32 × (StS)) :=
  nm ((sget 0 S p3 (5 : Int32))) fun v11 => nm ((sget 0 S p3 (6 : Int32))) fun v12 => nm ((if (1 : Int32) < (if v12 < (v11 <<< (((sget 5 S p2 (3 : Int32)) - (1 : Int32)) &&& 31)) then v12 else (v11 <<< (((sget 5 S p2 (3 : Int32)) - (1 : Int32)) &&& 31))) then (if v12 < (v11 <<< (((sget 5 S p2 (3 : Int32)) - (1 : Int32)) &&& 31)) then v12 else (v11 <<< (((sget 5 S p2 (3 : Int32)) - (1 : Int32)) &&& 31))) else (1 : Int32))) fun v13 => (if (sget 0 S p3 (7 : Int32)) = (1 : Int32) then ob (fX0_draw S) fun u16 => (if v13 = 0 then none else some (((1 : Int32) + (u16.1 - u16.1 / v13 * v13)), u16.2)) else (if (sget 0 S p3 (7 : Int32)) = (2 : Int32) then ob (fX0_draw S) fun u15 => (if ((v13 / (2 : Int32)) + (1 : Int32)) = 0 then none else some (((v13 - (v13 / (2 : Int32))) + (u15.1 - u15.1 / ((v13 / (2 : Int32)) + (1 : Int32)) * ((v13 / (2 : Int32)) + (1 : Int32)))), u15.2)) else (if (sget 0 S p3 (7 : Int32)) = (3 : Int32) then nm ((sget 5 S p2 (6 : Int32))) fun v14 => (if v14 = 0 then bfX0_delay_138 p2 p3  v11 v12 ((0 : Int32)) v11 S else bfX0_delay_138 p2 p3  v11 v12 ((0 : Int32)) v14 S) else some (v13, S))))
set_option maxHeartbeats 4000000 in
set_option maxRecDepth 100000 in
theorem kX0_delay (l : Launch) (D : va_G) (cI cS : ClassId) (aS : Nat → Nat) (p2 : Int32) (p3 : Int32) (S : StS) {q : Int32 × (StS)} (h : fX0_delay p2 p3 S = some q) : Mc l D (tyL cI cS) false yX0_delay cX0_delay 8 (some .int) 2 [.ref (aS 0), .int p2, .int p3] (wS cI aS S) (some (.int q.1)) (wS cI aS q.2) := by
  refine Mc_of RX0 (by decide +kernel) rfl wc_X0_delay (Nat.le_of_ble_eq_true rfl) ?_
  intro p e s m args below meth c A Q ls C hA hz hP hD hS hl RET
  have RETh : ∀ {pc : Nat} {ls : Array Slot} {H : Heap} {locs : List Loc} {x : Int32} {S1 : StS}, decode cX0_delay pc = .ok (.ireturn, 1) → some (x, S1) = some q → va_P D vwCl (wS cI aS S1) H → va_D A (wS cI aS S1) → va_S A s.heap H locs → W p l e (rmL 2) s m args below meth c H locs 0 0 Q (F0 m pc ls [.int x]) := by
    intro pc ls H locs x S1 hd h hP hD hS; cases h; exact RET (x_iret C hd) hP hD hS
  have B138 : ∀ (x3 : Int32) (x4 : Int32) (s0 : Int32) (s1 : Int32) (S : StS), bfX0_delay_138 p2 p3 x3 x4 s0 s1 S = some q → ∀ (H : Heap) (locs : List Loc) (ls : Array Slot), va_P D vwCl (wS cI aS S) H → va_D A (wS cI aS S) → va_S A s.heap H locs → lv_has ls 8 [(0, .ref (aS 0)), (3, .int x3), (4, .int x4)] → W p l e (rmL 2) s m args below meth c H locs 0 0 Q (F0 m 138 ls [.int s1, .int s0]) := by
    intro x3 x4 s0 s1 S h H locs ls hP hD hS hl
    refine x_max C hl.1 wm_X0_105 wt_J9_max_7cf53 wz_J9 wc_J9_max_7cf53 (by decide) (Nat.le_of_ble_eq_true rfl) ⟨Nat.zero_le _, Nat.zero_le _⟩ dX0_delay_138 ?_
    refine x_nmi h (fun v9 h => ?_)
    refine x_istore (lv' := [(7, .int v9), (0, .ref (aS 0)), (3, .int x3), (4, .int x4)]) C dX0_delay_141 hl (by decide) rfl (fun ls hl => ?_)
    refine x_iload_n C dX0_delay_143 rfl hl 2 rfl ?_
    refine x_aload_n C dX0_delay_144 rfl hl 1 rfl ?_
    obtain ⟨u10, hu10, h⟩ := ob_some h
    refine x_callS (As := [.ref _]) (n := 1) C (kX0_draw l D cI cS aS _ hu10) (fun hh => nomatch hh) wm_X0_108 wt_X0_draw wz_X0 wc_X0_draw (by decide +kernel) rfl hP hD hS hA hl.1 dX0_delay_145 rfl (Nat.le_of_ble_eq_true rfl) ⟨Nat.le_of_ble_eq_true rfl, Nat.le_of_ble_eq_true rfl⟩ ⟨Nat.zero_le _, Nat.zero_le _⟩ (fun H locs hP hD hS => ?_)
    refine x_iconst (v := (2 : Int32)) C dX0_delay_148 (by decide) ?_
    refine x_iload C dX0_delay_149 hl 0 rfl ?_
    refine x_imul C dX0_delay_151 ?_
    refine x_iconst (v := (1 : Int32)) C dX0_delay_152 (by decide) ?_
    refine x_iadd C dX0_delay_153 ?_
    refine x_irem C h dX0_delay_154 (fun h => ?_)
    refine x_iadd C dX0_delay_155 ?_
    refine x_iload C dX0_delay_156 hl 3 rfl ?_
    refine x_min C hl.1 wm_X0_61 wt_J9_min_7cf53 wz_J9 wc_J9_min_7cf53 (by decide) (Nat.le_of_ble_eq_true rfl) ⟨Nat.zero_le _, Nat.zero_le _⟩ dX0_delay_158 ?_
    exact RETh dX0_delay_161 h hP hD hS
  refine x_aload_n C dX0_delay_0 rfl hl 0 rfl ?_
  refine x_get C inX2 hP 0 rfl rfl 0 (by decide) wf_X0_37 rfl dX0_delay_1 ?_
  refine x_iload_n C dX0_delay_4 rfl hl 2 rfl ?_
  refine x_iconst (v := (5 : Int32)) C dX0_delay_5 (by decide) ?_
  refine x_callV (As := [.int _, .int _]) (n := 2) C (kS_get l D cI cS aS _ 0 (by decide) _ _) (fun hh => nomatch hh) wm_X0_41 wi_X3_get we_X3_get wz_X3 wc_X3_get (by decide +kernel) rfl hP hD hS hA 1 1 rfl rfl rfl hl.1 dX0_delay_6 rfl (Nat.le_of_ble_eq_true rfl) ⟨Nat.le_of_ble_eq_true rfl, Nat.le_of_ble_eq_true rfl⟩ ⟨Nat.zero_le _, Nat.zero_le _⟩ (fun H locs hP hD hS => ?_)
  refine x_nmi h (fun v11 h => ?_)
  refine x_istore_n (lv' := [(3, .int v11), (0, .ref (aS 0)), (1, .int p2), (2, .int p3)]) C dX0_delay_9 rfl hl (by decide) rfl (fun ls hl => ?_)
  refine x_aload_n C dX0_delay_10 rfl hl 1 rfl ?_
  refine x_get C inX2 hP 0 rfl rfl 0 (by decide) wf_X0_37 rfl dX0_delay_11 ?_
  refine x_iload_n C dX0_delay_14 rfl hl 3 rfl ?_
  refine x_bipush (v := (6 : Int32)) C dX0_delay_15 (by decide) ?_
  refine x_callV (As := [.int _, .int _]) (n := 2) C (kS_get l D cI cS aS _ 0 (by decide) _ _) (fun hh => nomatch hh) wm_X0_41 wi_X3_get we_X3_get wz_X3 wc_X3_get (by decide +kernel) rfl hP hD hS hA 1 1 rfl rfl rfl hl.1 dX0_delay_17 rfl (Nat.le_of_ble_eq_true rfl) ⟨Nat.le_of_ble_eq_true rfl, Nat.le_of_ble_eq_true rfl⟩ ⟨Nat.zero_le _, Nat.zero_le _⟩ (fun H locs hP hD hS => ?_)
  refine x_nmi h (fun v12 h => ?_)
  refine x_istore (lv' := [(4, .int v12), (3, .int v11), (0, .ref (aS 0)), (1, .int p2), (2, .int p3)]) C dX0_delay_20 hl (by decide) rfl (fun ls hl => ?_)
  refine x_iconst (v := (1 : Int32)) C dX0_delay_22 (by decide) ?_
  refine x_iload_n C dX0_delay_23 rfl hl 1 rfl ?_
  refine x_aload_n C dX0_delay_24 rfl hl 2 rfl ?_
  refine x_get C inX2 hP 0 rfl rfl 5 (by decide) wf_X0_69 rfl dX0_delay_25 ?_
  refine x_iload_n C dX0_delay_28 rfl hl 3 rfl ?_
  refine x_iconst (v := (3 : Int32)) C dX0_delay_29 (by decide) ?_
  refine x_callV (As := [.int _, .int _]) (n := 2) C (kS_get l D cI cS aS _ 5 (by decide) _ _) (fun hh => nomatch hh) wm_X0_41 wi_X3_get we_X3_get wz_X3 wc_X3_get (by decide +kernel) rfl hP hD hS hA 11 1 rfl rfl rfl hl.1 dX0_delay_30 rfl (Nat.le_of_ble_eq_true rfl) ⟨Nat.le_of_ble_eq_true rfl, Nat.le_of_ble_eq_true rfl⟩ ⟨Nat.zero_le _, Nat.zero_le _⟩ (fun H locs hP hD hS => ?_)
  refine x_iconst (v := (1 : Int32)) C dX0_delay_33 (by decide) ?_
  refine x_isub C dX0_delay_34 ?_
  refine x_ishl C dX0_delay_35 ?_
  refine x_iload C dX0_delay_36 hl 0 rfl ?_
  refine x_min C hl.1 wm_X0_61 wt_J9_min_7cf53 wz_J9 wc_J9_min_7cf53 (by decide) (Nat.le_of_ble_eq_true rfl) ⟨Nat.zero_le _, Nat.zero_le _⟩ dX0_delay_38 ?_
  refine x_max C hl.1 wm_X0_105 wt_J9_max_7cf53 wz_J9 wc_J9_max_7cf53 (by decide) (Nat.le_of_ble_eq_true rfl) ⟨Nat.zero_le _, Nat.zero_le _⟩ dX0_delay_41 ?_
  refine x_nmi h (fun v13 h => ?_)
  refine x_istore (lv' := [(5, .int v13), (4, .int v12), (3, .int v11), (0, .ref (aS 0)), (1, .int p2), (2, .int p3)]) C dX0_delay_44 hl (by decide) rfl (fun ls hl => ?_)
  refine x_aload_n C dX0_delay_46 rfl hl 3 rfl ?_
  refine x_get C inX2 hP 0 rfl rfl 0 (by decide) wf_X0_37 rfl dX0_delay_47 ?_
  refine x_iload_n C dX0_delay_50 rfl hl 5 rfl ?_
  refine x_bipush (v := (7 : Int32)) C dX0_delay_51 (by decide) ?_
  refine x_callV (As := [.int _, .int _]) (n := 2) C (kS_get l D cI cS aS _ 0 (by decide) _ _) (fun hh => nomatch hh) wm_X0_41 wi_X3_get we_X3_get wz_X3 wc_X3_get (by decide +kernel) rfl hP hD hS hA 1 1 rfl rfl rfl hl.1 dX0_delay_53 rfl (Nat.le_of_ble_eq_true rfl) ⟨Nat.le_of_ble_eq_true rfl, Nat.le_of_ble_eq_true rfl⟩ ⟨Nat.zero_le _, Nat.zero_le _⟩ (fun H locs hP hD hS => ?_)
  rcases x_ifc h with ⟨hc, h⟩ | ⟨hc1, h⟩
  · refine x_tabIn (tgt := 84) C dX0_delay_56 (by rw [hc]; decide) (by rw [hc]; decide) (by rw [hc]; rfl) (by decide) ?_
    refine x_iconst (v := (1 : Int32)) C dX0_delay_84 (by decide) ?_
    refine x_aload_n C dX0_delay_85 rfl hl 3 rfl ?_
    obtain ⟨u16, hu16, h⟩ := ob_some h
    refine x_callS (As := [.ref _]) (n := 1) C (kX0_draw l D cI cS aS _ hu16) (fun hh => nomatch hh) wm_X0_108 wt_X0_draw wz_X0 wc_X0_draw (by decide +kernel) rfl hP hD hS hA hl.1 dX0_delay_86 rfl (Nat.le_of_ble_eq_true rfl) ⟨Nat.le_of_ble_eq_true rfl, Nat.le_of_ble_eq_true rfl⟩ ⟨Nat.zero_le _, Nat.zero_le _⟩ (fun H locs hP hD hS => ?_)
    refine x_iload C dX0_delay_89 hl 0 rfl ?_
    refine x_irem C h dX0_delay_91 (fun h => ?_)
    refine x_iadd C dX0_delay_92 ?_
    exact RETh dX0_delay_93 h hP hD hS
  ·
    rcases x_ifc h with ⟨hc, h⟩ | ⟨hc2, h⟩
    · refine x_tabIn (tgt := 94) C dX0_delay_56 (by rw [hc]; decide) (by rw [hc]; decide) (by rw [hc]; rfl) (by decide) ?_
      refine x_iload C dX0_delay_94 hl 0 rfl ?_
      refine x_iload C dX0_delay_96 hl 0 rfl ?_
      refine x_iconst (v := (2 : Int32)) C dX0_delay_98 (by decide) ?_
      refine x_idivK C (by decide) dX0_delay_99 ?_
      refine x_isub C dX0_delay_100 ?_
      refine x_aload_n C dX0_delay_101 rfl hl 3 rfl ?_
      obtain ⟨u15, hu15, h⟩ := ob_some h
      refine x_callS (As := [.ref _]) (n := 1) C (kX0_draw l D cI cS aS _ hu15) (fun hh => nomatch hh) wm_X0_108 wt_X0_draw wz_X0 wc_X0_draw (by decide +kernel) rfl hP hD hS hA hl.1 dX0_delay_102 rfl (Nat.le_of_ble_eq_true rfl) ⟨Nat.le_of_ble_eq_true rfl, Nat.le_of_ble_eq_true rfl⟩ ⟨Nat.zero_le _, Nat.zero_le _⟩ (fun H locs hP hD hS => ?_)
      refine x_iload C dX0_delay_105 hl 0 rfl ?_
      refine x_iconst (v := (2 : Int32)) C dX0_delay_107 (by decide) ?_
      refine x_idivK C (by decide) dX0_delay_108 ?_
      refine x_iconst (v := (1 : Int32)) C dX0_delay_109 (by decide) ?_
      refine x_iadd C dX0_delay_110 ?_
      refine x_irem C h dX0_delay_111 (fun h => ?_)
      refine x_iadd C dX0_delay_112 ?_
      exact RETh dX0_delay_113 h hP hD hS
    ·
      rcases x_ifc h with ⟨hc, h⟩ | ⟨hc3, h⟩
      · refine x_tabIn (tgt := 114) C dX0_delay_56 (by rw [hc]; decide) (by rw [hc]; decide) (by rw [hc]; rfl) (by decide) ?_
        refine x_aload_n C dX0_delay_114 rfl hl 3 rfl ?_
        refine x_get C inX2 hP 0 rfl rfl 5 (by decide) wf_X0_69 rfl dX0_delay_115 ?_
        refine x_iload_n C dX0_delay_118 rfl hl 4 rfl ?_
        refine x_bipush (v := (6 : Int32)) C dX0_delay_119 (by decide) ?_
        refine x_callV (As := [.int _, .int _]) (n := 2) C (kS_get l D cI cS aS _ 5 (by decide) _ _) (fun hh => nomatch hh) wm_X0_41 wi_X3_get we_X3_get wz_X3 wc_X3_get (by decide +kernel) rfl hP hD hS hA 11 1 rfl rfl rfl hl.1 dX0_delay_121 rfl (Nat.le_of_ble_eq_true rfl) ⟨Nat.le_of_ble_eq_true rfl, Nat.le_of_ble_eq_true rfl⟩ ⟨Nat.zero_le _, Nat.zero_le _⟩ (fun H locs hP hD hS => ?_)
        refine x_nmi h (fun v14 h => ?_)
        refine x_istore (lv' := [(6, .int v14), (5, .int v13), (4, .int v12), (3, .int v11), (0, .ref (aS 0)), (1, .int p2), (2, .int p3)]) C dX0_delay_124 hl (by decide) rfl (fun ls hl => ?_)
        refine x_iconst (v := (0 : Int32)) C dX0_delay_126 (by decide) ?_
        refine x_iload C dX0_delay_127 hl 0 rfl ?_
        refine x_if_ne (tgt := 136) C h dX0_delay_129 (by decide) (fun h => ?_) (fun h => ?_)
        · refine x_iload C dX0_delay_136 hl 0 rfl ?_
          exact B138 _ _ _ _ _ h _ _ _ hP hD hS (lv_sub hl [4, 3, 2] rfl)
        · refine x_iload_n C dX0_delay_132 rfl hl 3 rfl ?_
          refine x_goto (tgt := 138) C dX0_delay_133 (by decide) ?_
          exact B138 _ _ _ _ _ h _ _ _ hP hD hS (lv_sub hl [4, 3, 2] rfl)
      · refine x_switch (tgt := 162) C dX0_delay_56 (x_tabO1_3 hc1 hc2 hc3) (by decide) ?_
        refine x_iload C dX0_delay_162 hl 0 rfl ?_
        exact RETh dX0_delay_164 h hP hD hS
theorem dX0_fail_0 : decode cX0_fail 0 = .ok (.aload_n 0, 1) := by decide +kernel
theorem dX0_fail_1 : decode cX0_fail 1 = .ok (.getfield 69, 3) := by decide +kernel
theorem dX0_fail_4 : decode cX0_fail 4 = .ok (.iconst 0, 1) := by decide +kernel
theorem dX0_fail_5 : decode cX0_fail 5 = .ok (.iload_n 1, 1) := by decide +kernel
theorem dX0_fail_6 : decode cX0_fail 6 = .ok (.invokevirtual 79, 3) := by decide +kernel
theorem dX0_fail_9 : decode cX0_fail 9 = .ok (.istore_n 3, 1) := by decide +kernel
theorem dX0_fail_10 : decode cX0_fail 10 = .ok (.iload_n 3, 1) := by decide +kernel
theorem dX0_fail_11 : decode cX0_fail 11 = .ok (.bipush (-9), 2) := by decide +kernel
theorem dX0_fail_13 : decode cX0_fail 13 = .ok (.if_icmp .ne 4, 3) := by decide +kernel
theorem dX0_fail_16 : decode cX0_fail 16 = .ok (.return_, 1) := by decide +kernel
theorem dX0_fail_17 : decode cX0_fail 17 = .ok (.aload_n 0, 1) := by decide +kernel
theorem dX0_fail_18 : decode cX0_fail 18 = .ok (.getfield 69, 3) := by decide +kernel
theorem dX0_fail_21 : decode cX0_fail 21 = .ok (.iload_n 3, 1) := by decide +kernel
theorem dX0_fail_22 : decode cX0_fail 22 = .ok (.iconst 1, 1) := by decide +kernel
theorem dX0_fail_23 : decode cX0_fail 23 = .ok (.invokevirtual 41, 3) := by decide +kernel
theorem dX0_fail_26 : decode cX0_fail 26 = .ok (.istore 4, 2) := by decide +kernel
theorem dX0_fail_28 : decode cX0_fail 28 = .ok (.aload_n 0, 1) := by decide +kernel
theorem dX0_fail_29 : decode cX0_fail 29 = .ok (.getfield 54, 3) := by decide +kernel
theorem dX0_fail_32 : decode cX0_fail 32 = .ok (.iload 4, 2) := by decide +kernel
theorem dX0_fail_34 : decode cX0_fail 34 = .ok (.iload_n 2, 1) := by decide +kernel
theorem dX0_fail_35 : decode cX0_fail 35 = .ok (.iconst 1, 1) := by decide +kernel
theorem dX0_fail_36 : decode cX0_fail 36 = .ok (.invokevirtual 57, 3) := by decide +kernel
theorem dX0_fail_39 : decode cX0_fail 39 = .ok (.aload_n 0, 1) := by decide +kernel
theorem dX0_fail_40 : decode cX0_fail 40 = .ok (.getfield 69, 3) := by decide +kernel
theorem dX0_fail_43 : decode cX0_fail 43 = .ok (.iload_n 3, 1) := by decide +kernel
theorem dX0_fail_44 : decode cX0_fail 44 = .ok (.iconst 3, 1) := by decide +kernel
theorem dX0_fail_45 : decode cX0_fail 45 = .ok (.invokevirtual 41, 3) := by decide +kernel
theorem dX0_fail_48 : decode cX0_fail 48 = .ok (.aload_n 0, 1) := by decide +kernel
theorem dX0_fail_49 : decode cX0_fail 49 = .ok (.getfield 37, 3) := by decide +kernel
theorem dX0_fail_52 : decode cX0_fail 52 = .ok (.iload 4, 2) := by decide +kernel
theorem dX0_fail_54 : decode cX0_fail 54 = .ok (.iconst 3, 1) := by decide +kernel
theorem dX0_fail_55 : decode cX0_fail 55 = .ok (.invokevirtual 41, 3) := by decide +kernel
theorem dX0_fail_58 : decode cX0_fail 58 = .ok (.if_icmp .ge 23, 3) := by decide +kernel
theorem dX0_fail_61 : decode cX0_fail 61 = .ok (.aload_n 0, 1) := by decide +kernel
theorem dX0_fail_62 : decode cX0_fail 62 = .ok (.getfield 54, 3) := by decide +kernel
theorem dX0_fail_65 : decode cX0_fail 65 = .ok (.iload 4, 2) := by decide +kernel
theorem dX0_fail_67 : decode cX0_fail 67 = .ok (.bipush 7, 2) := by decide +kernel
theorem dX0_fail_69 : decode cX0_fail 69 = .ok (.invokevirtual 41, 3) := by decide +kernel
theorem dX0_fail_72 : decode cX0_fail 72 = .ok (.bipush 10, 2) := by decide +kernel
theorem dX0_fail_74 : decode cX0_fail 74 = .ok (.if_icmp .lt 7, 3) := by decide +kernel
theorem dX0_fail_77 : decode cX0_fail 77 = .ok (.iconst 1, 1) := by decide +kernel
theorem dX0_fail_78 : decode cX0_fail 78 = .ok (.goto 4, 3) := by decide +kernel
theorem dX0_fail_81 : decode cX0_fail 81 = .ok (.iconst 0, 1) := by decide +kernel
theorem dX0_fail_82 : decode cX0_fail 82 = .ok (.istore 5, 2) := by decide +kernel
theorem dX0_fail_84 : decode cX0_fail 84 = .ok (.iload 5, 2) := by decide +kernel
theorem dX0_fail_86 : decode cX0_fail 86 = .ok (.ifCond .eq 13, 3) := by decide +kernel
theorem dX0_fail_89 : decode cX0_fail 89 = .ok (.aload_n 0, 1) := by decide +kernel
theorem dX0_fail_90 : decode cX0_fail 90 = .ok (.iload_n 3, 1) := by decide +kernel
theorem dX0_fail_91 : decode cX0_fail 91 = .ok (.iload 4, 2) := by decide +kernel
theorem dX0_fail_93 : decode cX0_fail 93 = .ok (.invokestatic 101, 3) := by decide +kernel
theorem dX0_fail_96 : decode cX0_fail 96 = .ok (.goto 4, 3) := by decide +kernel
theorem dX0_fail_99 : decode cX0_fail 99 = .ok (.iconst 0, 1) := by decide +kernel
theorem dX0_fail_100 : decode cX0_fail 100 = .ok (.istore 6, 2) := by decide +kernel
theorem dX0_fail_102 : decode cX0_fail 102 = .ok (.aload_n 0, 1) := by decide +kernel
theorem dX0_fail_103 : decode cX0_fail 103 = .ok (.getfield 47, 3) := by decide +kernel
theorem dX0_fail_106 : decode cX0_fail 106 = .ok (.iload 6, 2) := by decide +kernel
theorem dX0_fail_108 : decode cX0_fail 108 = .ok (.iadd, 1) := by decide +kernel
theorem dX0_fail_109 : decode cX0_fail 109 = .ok (.istore 7, 2) := by decide +kernel
theorem dX0_fail_111 : decode cX0_fail 111 = .ok (.iload 5, 2) := by decide +kernel
theorem dX0_fail_113 : decode cX0_fail 113 = .ok (.ifCond .eq 17, 3) := by decide +kernel
theorem dX0_fail_116 : decode cX0_fail 116 = .ok (.iload 7, 2) := by decide +kernel
theorem dX0_fail_118 : decode cX0_fail 118 = .ok (.aload_n 0, 1) := by decide +kernel
theorem dX0_fail_119 : decode cX0_fail 119 = .ok (.getfield 69, 3) := by decide +kernel
theorem dX0_fail_122 : decode cX0_fail 122 = .ok (.iload_n 3, 1) := by decide +kernel
theorem dX0_fail_123 : decode cX0_fail 123 = .ok (.iconst 2, 1) := by decide +kernel
theorem dX0_fail_124 : decode cX0_fail 124 = .ok (.invokevirtual 41, 3) := by decide +kernel
theorem dX0_fail_127 : decode cX0_fail 127 = .ok (.if_icmp .lt 23, 3) := by decide +kernel
theorem dX0_fail_130 : decode cX0_fail 130 = .ok (.aload_n 0, 1) := by decide +kernel
theorem dX0_fail_131 : decode cX0_fail 131 = .ok (.getfield 54, 3) := by decide +kernel
theorem dX0_fail_134 : decode cX0_fail 134 = .ok (.iload 4, 2) := by decide +kernel
theorem dX0_fail_136 : decode cX0_fail 136 = .ok (.iconst 3, 1) := by decide +kernel
theorem dX0_fail_137 : decode cX0_fail 137 = .ok (.iconst 1, 1) := by decide +kernel
theorem dX0_fail_138 : decode cX0_fail 138 = .ok (.invokevirtual 57, 3) := by decide +kernel
theorem dX0_fail_141 : decode cX0_fail 141 = .ok (.aload_n 0, 1) := by decide +kernel
theorem dX0_fail_142 : decode cX0_fail 142 = .ok (.getfield 69, 3) := by decide +kernel
theorem dX0_fail_145 : decode cX0_fail 145 = .ok (.iload_n 3, 1) := by decide +kernel
theorem dX0_fail_146 : decode cX0_fail 146 = .ok (.invokevirtual 94, 3) := by decide +kernel
theorem dX0_fail_149 : decode cX0_fail 149 = .ok (.return_, 1) := by decide +kernel
theorem dX0_fail_150 : decode cX0_fail 150 = .ok (.aload_n 0, 1) := by decide +kernel
theorem dX0_fail_151 : decode cX0_fail 151 = .ok (.getfield 54, 3) := by decide +kernel
theorem dX0_fail_154 : decode cX0_fail 154 = .ok (.iload 4, 2) := by decide +kernel
theorem dX0_fail_156 : decode cX0_fail 156 = .ok (.bipush 7, 2) := by decide +kernel
theorem dX0_fail_158 : decode cX0_fail 158 = .ok (.bipush (-10), 2) := by decide +kernel
theorem dX0_fail_160 : decode cX0_fail 160 = .ok (.invokevirtual 57, 3) := by decide +kernel
theorem dX0_fail_163 : decode cX0_fail 163 = .ok (.aload_n 0, 1) := by decide +kernel
theorem dX0_fail_164 : decode cX0_fail 164 = .ok (.getfield 69, 3) := by decide +kernel
theorem dX0_fail_167 : decode cX0_fail 167 = .ok (.iload_n 3, 1) := by decide +kernel
theorem dX0_fail_168 : decode cX0_fail 168 = .ok (.iconst 4, 1) := by decide +kernel
theorem dX0_fail_169 : decode cX0_fail 169 = .ok (.iconst 1, 1) := by decide +kernel
theorem dX0_fail_170 : decode cX0_fail 170 = .ok (.invokevirtual 66, 3) := by decide +kernel
theorem dX0_fail_173 : decode cX0_fail 173 = .ok (.aload_n 0, 1) := by decide +kernel
theorem dX0_fail_174 : decode cX0_fail 174 = .ok (.getfield 69, 3) := by decide +kernel
theorem dX0_fail_177 : decode cX0_fail 177 = .ok (.iload_n 3, 1) := by decide +kernel
theorem dX0_fail_178 : decode cX0_fail 178 = .ok (.iconst 5, 1) := by decide +kernel
theorem dX0_fail_179 : decode cX0_fail 179 = .ok (.iload 7, 2) := by decide +kernel
theorem dX0_fail_181 : decode cX0_fail 181 = .ok (.invokevirtual 66, 3) := by decide +kernel
theorem dX0_fail_184 : decode cX0_fail 184 = .ok (.aload_n 0, 1) := by decide +kernel
theorem dX0_fail_185 : decode cX0_fail 185 = .ok (.getfield 69, 3) := by decide +kernel
theorem dX0_fail_188 : decode cX0_fail 188 = .ok (.iload_n 3, 1) := by decide +kernel
theorem dX0_fail_189 : decode cX0_fail 189 = .ok (.bipush 6, 2) := by decide +kernel
theorem dX0_fail_191 : decode cX0_fail 191 = .ok (.iload 6, 2) := by decide +kernel
theorem dX0_fail_193 : decode cX0_fail 193 = .ok (.invokevirtual 66, 3) := by decide +kernel
theorem dX0_fail_196 : decode cX0_fail 196 = .ok (.return_, 1) := by decide +kernel
def bfX0_fail_130 (p2 : Int32) (p3 : Int32) (x3 : Int32) (x4 : Int32) (S : StS) : Option (StS) :=
  nm (sadd 1 S x4 (3 : Int32) (1 : Int32)) fun S12 => nm (sdrop 5 S12 x3) fun S13 => some S13
def bfX0_fail_100 (p2 : Int32) (p3 : Int32) (x3 : Int32) (x4 : Int32) (x5 : Int32) (s0 : Int32) (S : StS) : Option (StS) :=
  nm (((S.2 12) + s0)) fun v14 => (if x5 = 0 then bfX0_fail_130 p2 p3  x3 x4 S else (if v14 < (sget 5 S x3 (2 : Int32)) then nm (sadd 1 S x4 (7 : Int32) (-10 : Int32)) fun S15 => nm (sput 5 S15 x3 (4 : Int32) (1 : Int32)) fun S16 => nm (sput 5 S16 x3 (5 : Int32) v14) fun S17 => nm (sput 5 S17 x3 (6 : Int32) s0) fun S18 => some S18 else bfX0_fail_130 p2 p3  x3 x4 S))
def bfX0_fail_82 (p2 : Int32) (p3 : Int32) (x3 : Int32) (x4 : Int32) (s0 : Int32) (S : StS) : Option (StS) :=
  (if s0 = 0 then bfX0_fail_100 p2 p3  x3 x4 s0 ((0 : Int32)) S else ob (fX0_delay x3 x4 S) fun u19 => bfX0_fail_100 p2 p3  x3 x4 s0 u19.1 u19.2)
def bfX0_fail_81 (p2 : Int32) (p3 : Int32) (x3 : Int32) (x4 : Int32) (S : StS) : Option (StS) :=
  bfX0_fail_82 p2 p3  x3 x4 ((0 : Int32)) S
def fX0_fail (p2 : Int32) (p3 : Int32) (S : StS) : Option (StS) :=
  nm ((sfind 5 S (0 : Int32) p2)) fun v20 => (if v20 = (-9 : Int32) then some S else nm ((sget 5 S v20 (1 : Int32))) fun v21 => nm (sadd 1 S v21 p3 (1 : Int32)) fun S22 => (if (sget 0 S22 v21 (3 : Int32)) ≤ (sget 5 S22 v20 (3 : Int32)) then bfX0_fail_81 p2 p3  v20 v21 S22 else (if (sget 1 S22 v21 (7 : Int32)) < (10 : Int32) then bfX0_fail_81 p2 p3  v20 v21 S22 else bfX0_fail_82 p2 p3  v20 v21 ((1 : Int32)) S22)))
set_option maxHeartbeats 4000000 in
set_option maxRecDepth 100000 in
theorem kX0_fail (l : Launch) (D : va_G) (cI cS : ClassId) (aS : Nat → Nat) (p2 : Int32) (p3 : Int32) (S : StS) {q : StS} (h : fX0_fail p2 p3 S = some q) : Mc l D (tyL cI cS) false yX0_fail cX0_fail 8 none 3 [.ref (aS 0), .int p2, .int p3] (wS cI aS S) none (wS cI aS q) := by
  refine Mc_of RX0 (by decide +kernel) rfl wc_X0_fail (Nat.le_of_ble_eq_true rfl) ?_
  intro p e s m args below meth c A Q ls C hA hz hP hD hS hl RET
  have RETh : ∀ {pc : Nat} {ls : Array Slot} {H : Heap} {locs : List Loc} {S1 : StS}, decode cX0_fail pc = .ok (.return_, 1) → some S1 = some q → va_P D vwCl (wS cI aS S1) H → va_D A (wS cI aS S1) → va_S A s.heap H locs → W p l e (rmL 3) s m args below meth c H locs 0 0 Q (F0 m pc ls []) := by
    intro pc ls H locs S1 hd h hP hD hS; cases h; exact RET (x_vret C hd) hP hD hS
  have B130 : ∀ (x3 : Int32) (x4 : Int32) (S : StS), bfX0_fail_130 p2 p3 x3 x4 S = some q → ∀ (H : Heap) (locs : List Loc) (ls : Array Slot), va_P D vwCl (wS cI aS S) H → va_D A (wS cI aS S) → va_S A s.heap H locs → lv_has ls 8 [(0, .ref (aS 0)), (3, .int x3), (4, .int x4)] → W p l e (rmL 3) s m args below meth c H locs 0 0 Q (F0 m 130 ls []) := by
    intro x3 x4 S h H locs ls hP hD hS hl
    refine x_aload_n C dX0_fail_130 rfl hl 0 rfl ?_
    refine x_get C inX2 hP 0 rfl rfl 1 (by decide) wf_X0_54 rfl dX0_fail_131 ?_
    refine x_iload C dX0_fail_134 hl 2 rfl ?_
    refine x_iconst (v := (3 : Int32)) C dX0_fail_136 (by decide) ?_
    refine x_iconst (v := (1 : Int32)) C dX0_fail_137 (by decide) ?_
    refine x_callV (As := [.int _, .int _, .int _]) (n := 3) C (kS_add l D cI cS aS _ 1 (by decide) _ _ _) (fun hh => nomatch hh) wm_X0_57 wi_X3_add we_X3_add wz_X3 wc_X3_add (by decide +kernel) rfl hP hD hS hA 3 1 rfl rfl rfl hl.1 dX0_fail_138 rfl (Nat.le_of_ble_eq_true rfl) ⟨Nat.le_of_ble_eq_true rfl, Nat.le_of_ble_eq_true rfl⟩ ⟨Nat.zero_le _, Nat.zero_le _⟩ (fun H locs hP hD hS => ?_)
    refine x_nmS (wS cI aS) h hP hD (fun S12 h hP hD => ?_)
    refine x_aload_n C dX0_fail_141 rfl hl 0 rfl ?_
    refine x_get C inX2 hP 0 rfl rfl 5 (by decide) wf_X0_69 rfl dX0_fail_142 ?_
    refine x_iload_n C dX0_fail_145 rfl hl 1 rfl ?_
    refine x_callV (As := [.int _]) (n := 1) C (kS_drop l D cI cS aS _ 5 (by decide) _) (fun hh => nomatch hh) wm_X0_94 wi_X3_drop we_X3_drop wz_X3 wc_X3_drop (by decide +kernel) rfl hP hD hS hA 11 1 rfl rfl rfl hl.1 dX0_fail_146 rfl (Nat.le_of_ble_eq_true rfl) ⟨Nat.le_of_ble_eq_true rfl, Nat.le_of_ble_eq_true rfl⟩ ⟨Nat.zero_le _, Nat.zero_le _⟩ (fun H locs hP hD hS => ?_)
    refine x_nmS (wS cI aS) h hP hD (fun S13 h hP hD => ?_)
    exact RETh dX0_fail_149 h hP hD hS
  have B100 : ∀ (x3 : Int32) (x4 : Int32) (x5 : Int32) (s0 : Int32) (S : StS), bfX0_fail_100 p2 p3 x3 x4 x5 s0 S = some q → ∀ (H : Heap) (locs : List Loc) (ls : Array Slot), va_P D vwCl (wS cI aS S) H → va_D A (wS cI aS S) → va_S A s.heap H locs → lv_has ls 8 [(0, .ref (aS 0)), (3, .int x3), (4, .int x4), (5, .int x5)] → W p l e (rmL 3) s m args below meth c H locs 0 0 Q (F0 m 100 ls [.int s0]) := by
    intro x3 x4 x5 s0 S h H locs ls hP hD hS hl
    refine x_istore (lv' := [(6, .int s0), (0, .ref (aS 0)), (3, .int x3), (4, .int x4), (5, .int x5)]) C dX0_fail_100 hl (by decide) rfl (fun ls hl => ?_)
    refine x_aload_n C dX0_fail_102 rfl hl 1 rfl ?_
    refine x_get C inX2 hP 0 rfl rfl 12 (by decide) wf_X0_47 rfl dX0_fail_103 ?_
    refine x_iload C dX0_fail_106 hl 0 rfl ?_
    refine x_iadd C dX0_fail_108 ?_
    refine x_nmi h (fun v14 h => ?_)
    refine x_istore (lv' := [(7, .int v14), (6, .int s0), (0, .ref (aS 0)), (3, .int x3), (4, .int x4), (5, .int x5)]) C dX0_fail_109 hl (by decide) rfl (fun ls hl => ?_)
    refine x_iload C dX0_fail_111 hl 5 rfl ?_
    refine x_if_eq (tgt := 130) C h dX0_fail_113 (by decide) (fun h => ?_) (fun h => ?_)
    · exact B130 _ _ _ h _ _ _ hP hD hS (lv_sub hl [2, 3, 4] rfl)
    · refine x_iload C dX0_fail_116 hl 0 rfl ?_
      refine x_aload_n C dX0_fail_118 rfl hl 2 rfl ?_
      refine x_get C inX2 hP 0 rfl rfl 5 (by decide) wf_X0_69 rfl dX0_fail_119 ?_
      refine x_iload_n C dX0_fail_122 rfl hl 3 rfl ?_
      refine x_iconst (v := (2 : Int32)) C dX0_fail_123 (by decide) ?_
      refine x_callV (As := [.int _, .int _]) (n := 2) C (kS_get l D cI cS aS _ 5 (by decide) _ _) (fun hh => nomatch hh) wm_X0_41 wi_X3_get we_X3_get wz_X3 wc_X3_get (by decide +kernel) rfl hP hD hS hA 11 1 rfl rfl rfl hl.1 dX0_fail_124 rfl (Nat.le_of_ble_eq_true rfl) ⟨Nat.le_of_ble_eq_true rfl, Nat.le_of_ble_eq_true rfl⟩ ⟨Nat.zero_le _, Nat.zero_le _⟩ (fun H locs hP hD hS => ?_)
      refine x_icmp_lt (tgt := 150) C h dX0_fail_127 (by decide) (fun h => ?_) (fun h => ?_)
      · refine x_aload_n C dX0_fail_150 rfl hl 2 rfl ?_
        refine x_get C inX2 hP 0 rfl rfl 1 (by decide) wf_X0_54 rfl dX0_fail_151 ?_
        refine x_iload C dX0_fail_154 hl 4 rfl ?_
        refine x_bipush (v := (7 : Int32)) C dX0_fail_156 (by decide) ?_
        refine x_bipush (v := (-10 : Int32)) C dX0_fail_158 (by decide) ?_
        refine x_callV (As := [.int _, .int _, .int _]) (n := 3) C (kS_add l D cI cS aS _ 1 (by decide) _ _ _) (fun hh => nomatch hh) wm_X0_57 wi_X3_add we_X3_add wz_X3 wc_X3_add (by decide +kernel) rfl hP hD hS hA 3 1 rfl rfl rfl hl.1 dX0_fail_160 rfl (Nat.le_of_ble_eq_true rfl) ⟨Nat.le_of_ble_eq_true rfl, Nat.le_of_ble_eq_true rfl⟩ ⟨Nat.zero_le _, Nat.zero_le _⟩ (fun H locs hP hD hS => ?_)
        refine x_nmS (wS cI aS) h hP hD (fun S15 h hP hD => ?_)
        refine x_aload_n C dX0_fail_163 rfl hl 2 rfl ?_
        refine x_get C inX2 hP 0 rfl rfl 5 (by decide) wf_X0_69 rfl dX0_fail_164 ?_
        refine x_iload_n C dX0_fail_167 rfl hl 3 rfl ?_
        refine x_iconst (v := (4 : Int32)) C dX0_fail_168 (by decide) ?_
        refine x_iconst (v := (1 : Int32)) C dX0_fail_169 (by decide) ?_
        refine x_callV (As := [.int _, .int _, .int _]) (n := 3) C (kS_put l D cI cS aS _ 5 (by decide) _ _ _) (fun hh => nomatch hh) wm_X0_66 wi_X3_put we_X3_put wz_X3 wc_X3_put (by decide +kernel) rfl hP hD hS hA 11 1 rfl rfl rfl hl.1 dX0_fail_170 rfl (Nat.le_of_ble_eq_true rfl) ⟨Nat.le_of_ble_eq_true rfl, Nat.le_of_ble_eq_true rfl⟩ ⟨Nat.zero_le _, Nat.zero_le _⟩ (fun H locs hP hD hS => ?_)
        refine x_nmS (wS cI aS) h hP hD (fun S16 h hP hD => ?_)
        refine x_aload_n C dX0_fail_173 rfl hl 2 rfl ?_
        refine x_get C inX2 hP 0 rfl rfl 5 (by decide) wf_X0_69 rfl dX0_fail_174 ?_
        refine x_iload_n C dX0_fail_177 rfl hl 3 rfl ?_
        refine x_iconst (v := (5 : Int32)) C dX0_fail_178 (by decide) ?_
        refine x_iload C dX0_fail_179 hl 0 rfl ?_
        refine x_callV (As := [.int _, .int _, .int _]) (n := 3) C (kS_put l D cI cS aS _ 5 (by decide) _ _ _) (fun hh => nomatch hh) wm_X0_66 wi_X3_put we_X3_put wz_X3 wc_X3_put (by decide +kernel) rfl hP hD hS hA 11 1 rfl rfl rfl hl.1 dX0_fail_181 rfl (Nat.le_of_ble_eq_true rfl) ⟨Nat.le_of_ble_eq_true rfl, Nat.le_of_ble_eq_true rfl⟩ ⟨Nat.zero_le _, Nat.zero_le _⟩ (fun H locs hP hD hS => ?_)
        refine x_nmS (wS cI aS) h hP hD (fun S17 h hP hD => ?_)
        refine x_aload_n C dX0_fail_184 rfl hl 2 rfl ?_
        refine x_get C inX2 hP 0 rfl rfl 5 (by decide) wf_X0_69 rfl dX0_fail_185 ?_
        refine x_iload_n C dX0_fail_188 rfl hl 3 rfl ?_
        refine x_bipush (v := (6 : Int32)) C dX0_fail_189 (by decide) ?_
        refine x_iload C dX0_fail_191 hl 1 rfl ?_
        refine x_callV (As := [.int _, .int _, .int _]) (n := 3) C (kS_put l D cI cS aS _ 5 (by decide) _ _ _) (fun hh => nomatch hh) wm_X0_66 wi_X3_put we_X3_put wz_X3 wc_X3_put (by decide +kernel) rfl hP hD hS hA 11 1 rfl rfl rfl hl.1 dX0_fail_193 rfl (Nat.le_of_ble_eq_true rfl) ⟨Nat.le_of_ble_eq_true rfl, Nat.le_of_ble_eq_true rfl⟩ ⟨Nat.zero_le _, Nat.zero_le _⟩ (fun H locs hP hD hS => ?_)
        refine x_nmS (wS cI aS) h hP hD (fun S18 h hP hD => ?_)
        exact RETh dX0_fail_196 h hP hD hS
      · exact B130 _ _ _ h _ _ _ hP hD hS (lv_sub hl [2, 3, 4] rfl)
  have B82 : ∀ (x3 : Int32) (x4 : Int32) (s0 : Int32) (S : StS), bfX0_fail_82 p2 p3 x3 x4 s0 S = some q → ∀ (H : Heap) (locs : List Loc) (ls : Array Slot), va_P D vwCl (wS cI aS S) H → va_D A (wS cI aS S) → va_S A s.heap H locs → lv_has ls 8 [(0, .ref (aS 0)), (3, .int x3), (4, .int x4)] → W p l e (rmL 3) s m args below meth c H locs 0 0 Q (F0 m 82 ls [.int s0]) := by
    intro x3 x4 s0 S h H locs ls hP hD hS hl
    refine x_istore (lv' := [(5, .int s0), (0, .ref (aS 0)), (3, .int x3), (4, .int x4)]) C dX0_fail_82 hl (by decide) rfl (fun ls hl => ?_)
    refine x_iload C dX0_fail_84 hl 0 rfl ?_
    refine x_if_eq (tgt := 99) C h dX0_fail_86 (by decide) (fun h => ?_) (fun h => ?_)
    · refine x_iconst (v := (0 : Int32)) C dX0_fail_99 (by decide) ?_
      exact B100 _ _ _ _ _ h _ _ _ hP hD hS (lv_sub hl [1, 2, 3, 0] rfl)
    · refine x_aload_n C dX0_fail_89 rfl hl 1 rfl ?_
      refine x_iload_n C dX0_fail_90 rfl hl 2 rfl ?_
      refine x_iload C dX0_fail_91 hl 3 rfl ?_
      obtain ⟨u19, hu19, h⟩ := ob_some h
      refine x_callS (As := [.ref _, .int _, .int _]) (n := 3) C (kX0_delay l D cI cS aS _ _ _ hu19) (fun hh => nomatch hh) wm_X0_101 wt_X0_delay wz_X0 wc_X0_delay (by decide +kernel) rfl hP hD hS hA hl.1 dX0_fail_93 rfl (Nat.le_of_ble_eq_true rfl) ⟨Nat.le_of_ble_eq_true rfl, Nat.le_of_ble_eq_true rfl⟩ ⟨Nat.zero_le _, Nat.zero_le _⟩ (fun H locs hP hD hS => ?_)
      refine x_goto (tgt := 100) C dX0_fail_96 (by decide) ?_
      exact B100 _ _ _ _ _ h _ _ _ hP hD hS (lv_sub hl [1, 2, 3, 0] rfl)
  have B81 : ∀ (x3 : Int32) (x4 : Int32) (S : StS), bfX0_fail_81 p2 p3 x3 x4 S = some q → ∀ (H : Heap) (locs : List Loc) (ls : Array Slot), va_P D vwCl (wS cI aS S) H → va_D A (wS cI aS S) → va_S A s.heap H locs → lv_has ls 8 [(0, .ref (aS 0)), (3, .int x3), (4, .int x4)] → W p l e (rmL 3) s m args below meth c H locs 0 0 Q (F0 m 81 ls []) := by
    intro x3 x4 S h H locs ls hP hD hS hl
    refine x_iconst (v := (0 : Int32)) C dX0_fail_81 (by decide) ?_
    exact B82 _ _ _ _ h _ _ _ hP hD hS hl
  refine x_aload_n C dX0_fail_0 rfl hl 0 rfl ?_
  refine x_get C inX2 hP 0 rfl rfl 5 (by decide) wf_X0_69 rfl dX0_fail_1 ?_
  refine x_iconst (v := (0 : Int32)) C dX0_fail_4 (by decide) ?_
  refine x_iload_n C dX0_fail_5 rfl hl 1 rfl ?_
  refine x_callV (As := [.int _, .int _]) (n := 2) C (kS_find l D cI cS aS _ 5 (by decide) _ _) (fun hh => nomatch hh) wm_X0_79 wi_X3_find we_X3_find wz_X3 wc_X3_find (by decide +kernel) rfl hP hD hS hA 11 1 rfl rfl rfl hl.1 dX0_fail_6 rfl (Nat.le_of_ble_eq_true rfl) ⟨Nat.le_of_ble_eq_true rfl, Nat.le_of_ble_eq_true rfl⟩ ⟨Nat.zero_le _, Nat.zero_le _⟩ (fun H locs hP hD hS => ?_)
  refine x_nmi h (fun v20 h => ?_)
  refine x_istore_n (lv' := [(3, .int v20), (0, .ref (aS 0)), (1, .int p2), (2, .int p3)]) C dX0_fail_9 rfl hl (by decide) rfl (fun ls hl => ?_)
  refine x_iload_n C dX0_fail_10 rfl hl 0 rfl ?_
  refine x_bipush (v := (-9 : Int32)) C dX0_fail_11 (by decide) ?_
  refine x_icmp_ne (tgt := 17) C h dX0_fail_13 (by decide) (fun h => ?_) (fun h => ?_)
  · refine x_aload_n C dX0_fail_17 rfl hl 1 rfl ?_
    refine x_get C inX2 hP 0 rfl rfl 5 (by decide) wf_X0_69 rfl dX0_fail_18 ?_
    refine x_iload_n C dX0_fail_21 rfl hl 0 rfl ?_
    refine x_iconst (v := (1 : Int32)) C dX0_fail_22 (by decide) ?_
    refine x_callV (As := [.int _, .int _]) (n := 2) C (kS_get l D cI cS aS _ 5 (by decide) _ _) (fun hh => nomatch hh) wm_X0_41 wi_X3_get we_X3_get wz_X3 wc_X3_get (by decide +kernel) rfl hP hD hS hA 11 1 rfl rfl rfl hl.1 dX0_fail_23 rfl (Nat.le_of_ble_eq_true rfl) ⟨Nat.le_of_ble_eq_true rfl, Nat.le_of_ble_eq_true rfl⟩ ⟨Nat.zero_le _, Nat.zero_le _⟩ (fun H locs hP hD hS => ?_)
    refine x_nmi h (fun v21 h => ?_)
    refine x_istore (lv' := [(4, .int v21), (3, .int v20), (0, .ref (aS 0)), (1, .int p2), (2, .int p3)]) C dX0_fail_26 hl (by decide) rfl (fun ls hl => ?_)
    refine x_aload_n C dX0_fail_28 rfl hl 2 rfl ?_
    refine x_get C inX2 hP 0 rfl rfl 1 (by decide) wf_X0_54 rfl dX0_fail_29 ?_
    refine x_iload C dX0_fail_32 hl 0 rfl ?_
    refine x_iload_n C dX0_fail_34 rfl hl 4 rfl ?_
    refine x_iconst (v := (1 : Int32)) C dX0_fail_35 (by decide) ?_
    refine x_callV (As := [.int _, .int _, .int _]) (n := 3) C (kS_add l D cI cS aS _ 1 (by decide) _ _ _) (fun hh => nomatch hh) wm_X0_57 wi_X3_add we_X3_add wz_X3 wc_X3_add (by decide +kernel) rfl hP hD hS hA 3 1 rfl rfl rfl hl.1 dX0_fail_36 rfl (Nat.le_of_ble_eq_true rfl) ⟨Nat.le_of_ble_eq_true rfl, Nat.le_of_ble_eq_true rfl⟩ ⟨Nat.zero_le _, Nat.zero_le _⟩ (fun H locs hP hD hS => ?_)
    refine x_nmS (wS cI aS) h hP hD (fun S22 h hP hD => ?_)
    refine x_aload_n C dX0_fail_39 rfl hl 2 rfl ?_
    refine x_get C inX2 hP 0 rfl rfl 5 (by decide) wf_X0_69 rfl dX0_fail_40 ?_
    refine x_iload_n C dX0_fail_43 rfl hl 1 rfl ?_
    refine x_iconst (v := (3 : Int32)) C dX0_fail_44 (by decide) ?_
    refine x_callV (As := [.int _, .int _]) (n := 2) C (kS_get l D cI cS aS _ 5 (by decide) _ _) (fun hh => nomatch hh) wm_X0_41 wi_X3_get we_X3_get wz_X3 wc_X3_get (by decide +kernel) rfl hP hD hS hA 11 1 rfl rfl rfl hl.1 dX0_fail_45 rfl (Nat.le_of_ble_eq_true rfl) ⟨Nat.le_of_ble_eq_true rfl, Nat.le_of_ble_eq_true rfl⟩ ⟨Nat.zero_le _, Nat.zero_le _⟩ (fun H locs hP hD hS => ?_)
    refine x_aload_n C dX0_fail_48 rfl hl 2 rfl ?_
    refine x_get C inX2 hP 0 rfl rfl 0 (by decide) wf_X0_37 rfl dX0_fail_49 ?_
    refine x_iload C dX0_fail_52 hl 0 rfl ?_
    refine x_iconst (v := (3 : Int32)) C dX0_fail_54 (by decide) ?_
    refine x_callV (As := [.int _, .int _]) (n := 2) C (kS_get l D cI cS aS _ 0 (by decide) _ _) (fun hh => nomatch hh) wm_X0_41 wi_X3_get we_X3_get wz_X3 wc_X3_get (by decide +kernel) rfl hP hD hS hA 1 1 rfl rfl rfl hl.1 dX0_fail_55 rfl (Nat.le_of_ble_eq_true rfl) ⟨Nat.le_of_ble_eq_true rfl, Nat.le_of_ble_eq_true rfl⟩ ⟨Nat.zero_le _, Nat.zero_le _⟩ (fun H locs hP hD hS => ?_)
    refine x_icmp_ge (tgt := 81) C h dX0_fail_58 (by decide) (fun h => ?_) (fun h => ?_)
    · exact B81 _ _ _ h _ _ _ hP hD hS (lv_sub hl [2, 1, 0] rfl)
    · refine x_aload_n C dX0_fail_61 rfl hl 2 rfl ?_
      refine x_get C inX2 hP 0 rfl rfl 1 (by decide) wf_X0_54 rfl dX0_fail_62 ?_
      refine x_iload C dX0_fail_65 hl 0 rfl ?_
      refine x_bipush (v := (7 : Int32)) C dX0_fail_67 (by decide) ?_
      refine x_callV (As := [.int _, .int _]) (n := 2) C (kS_get l D cI cS aS _ 1 (by decide) _ _) (fun hh => nomatch hh) wm_X0_41 wi_X3_get we_X3_get wz_X3 wc_X3_get (by decide +kernel) rfl hP hD hS hA 3 1 rfl rfl rfl hl.1 dX0_fail_69 rfl (Nat.le_of_ble_eq_true rfl) ⟨Nat.le_of_ble_eq_true rfl, Nat.le_of_ble_eq_true rfl⟩ ⟨Nat.zero_le _, Nat.zero_le _⟩ (fun H locs hP hD hS => ?_)
      refine x_bipush (v := (10 : Int32)) C dX0_fail_72 (by decide) ?_
      refine x_icmp_lt (tgt := 81) C h dX0_fail_74 (by decide) (fun h => ?_) (fun h => ?_)
      · exact B81 _ _ _ h _ _ _ hP hD hS (lv_sub hl [2, 1, 0] rfl)
      · refine x_iconst (v := (1 : Int32)) C dX0_fail_77 (by decide) ?_
        refine x_goto (tgt := 82) C dX0_fail_78 (by decide) ?_
        exact B82 _ _ _ _ h _ _ _ hP hD hS (lv_sub hl [2, 1, 0] rfl)
  · exact RETh dX0_fail_16 h hP hD hS
theorem dX1_waste_0 : decode cX1_waste 0 = .ok (.aload_n 0, 1) := by decide +kernel
theorem dX1_waste_1 : decode cX1_waste 1 = .ok (.getfield 59, 3) := by decide +kernel
theorem dX1_waste_4 : decode cX1_waste 4 = .ok (.iload_n 1, 1) := by decide +kernel
theorem dX1_waste_5 : decode cX1_waste 5 = .ok (.iconst 0, 1) := by decide +kernel
theorem dX1_waste_6 : decode cX1_waste 6 = .ok (.invokevirtual 15, 3) := by decide +kernel
theorem dX1_waste_9 : decode cX1_waste 9 = .ok (.istore_n 2, 1) := by decide +kernel
theorem dX1_waste_10 : decode cX1_waste 10 = .ok (.aload_n 0, 1) := by decide +kernel
theorem dX1_waste_11 : decode cX1_waste 11 = .ok (.dup, 1) := by decide +kernel
theorem dX1_waste_12 : decode cX1_waste 12 = .ok (.getfield 123, 3) := by decide +kernel
theorem dX1_waste_15 : decode cX1_waste 15 = .ok (.aload_n 0, 1) := by decide +kernel
theorem dX1_waste_16 : decode cX1_waste 16 = .ok (.getfield 59, 3) := by decide +kernel
theorem dX1_waste_19 : decode cX1_waste 19 = .ok (.iload_n 1, 1) := by decide +kernel
theorem dX1_waste_20 : decode cX1_waste 20 = .ok (.iconst 4, 1) := by decide +kernel
theorem dX1_waste_21 : decode cX1_waste 21 = .ok (.invokevirtual 15, 3) := by decide +kernel
theorem dX1_waste_24 : decode cX1_waste 24 = .ok (.iadd, 1) := by decide +kernel
theorem dX1_waste_25 : decode cX1_waste 25 = .ok (.putfield 123, 3) := by decide +kernel
theorem dX1_waste_28 : decode cX1_waste 28 = .ok (.aload_n 0, 1) := by decide +kernel
theorem dX1_waste_29 : decode cX1_waste 29 = .ok (.getfield 59, 3) := by decide +kernel
theorem dX1_waste_32 : decode cX1_waste 32 = .ok (.iload_n 1, 1) := by decide +kernel
theorem dX1_waste_33 : decode cX1_waste 33 = .ok (.iconst 0, 1) := by decide +kernel
theorem dX1_waste_34 : decode cX1_waste 34 = .ok (.bipush (-9), 2) := by decide +kernel
theorem dX1_waste_36 : decode cX1_waste 36 = .ok (.invokevirtual 28, 3) := by decide +kernel
theorem dX1_waste_39 : decode cX1_waste 39 = .ok (.iload_n 2, 1) := by decide +kernel
theorem dX1_waste_40 : decode cX1_waste 40 = .ok (.ireturn, 1) := by decide +kernel
def fX1_waste (p2 : Int32) (S : StS) : Option (Int32 × (StS)) :=
  nm ((sget 7 S p2 (0 : Int32))) fun v4 => nm (S.1, upd S.2 16 ((S.2 16) + (sget 7 S p2 (4 : Int32)))) fun S5 => nm (sput 7 S5 p2 (0 : Int32) (-9 : Int32)) fun S6 => some (v4, S6)
set_option maxHeartbeats 4000000 in
set_option maxRecDepth 100000 in
theorem kX1_waste (l : Launch) (D : va_G) (cI cS : ClassId) (aS : Nat → Nat) (p2 : Int32) (S : StS) {q : Int32 × (StS)} (h : fX1_waste p2 S = some q) : Mc l D (tyL cI cS) false yX1_waste cX1_waste 3 (some .int) 2 [.ref (aS 0), .int p2] (wS cI aS S) (some (.int q.1)) (wS cI aS q.2) := by
  refine Mc_of RX1 (by decide +kernel) rfl wc_X1_waste (Nat.le_of_ble_eq_true rfl) ?_
  intro p e s m args below meth c A Q ls C hA hz hP hD hS hl RET
  have RETh : ∀ {pc : Nat} {ls : Array Slot} {H : Heap} {locs : List Loc} {x : Int32} {S1 : StS}, decode cX1_waste pc = .ok (.ireturn, 1) → some (x, S1) = some q → va_P D vwCl (wS cI aS S1) H → va_D A (wS cI aS S1) → va_S A s.heap H locs → W p l e (rmL 2) s m args below meth c H locs 0 0 Q (F0 m pc ls [.int x]) := by
    intro pc ls H locs x S1 hd h hP hD hS; cases h; exact RET (x_iret C hd) hP hD hS
  refine x_aload_n C dX1_waste_0 rfl hl 0 rfl ?_
  refine x_get C inX2 hP 0 rfl rfl 7 (by decide) wf_X1_59 rfl dX1_waste_1 ?_
  refine x_iload_n C dX1_waste_4 rfl hl 1 rfl ?_
  refine x_iconst (v := (0 : Int32)) C dX1_waste_5 (by decide) ?_
  refine x_callV (As := [.int _, .int _]) (n := 2) C (kS_get l D cI cS aS _ 7 (by decide) _ _) (fun hh => nomatch hh) wm_X1_15 wi_X3_get we_X3_get wz_X3 wc_X3_get (by decide +kernel) rfl hP hD hS hA 15 1 rfl rfl rfl hl.1 dX1_waste_6 rfl (Nat.le_of_ble_eq_true rfl) ⟨Nat.le_of_ble_eq_true rfl, Nat.le_of_ble_eq_true rfl⟩ ⟨Nat.zero_le _, Nat.zero_le _⟩ (fun H locs hP hD hS => ?_)
  refine x_nmi h (fun v4 h => ?_)
  refine x_istore_n (lv' := [(2, .int v4), (0, .ref (aS 0)), (1, .int p2)]) C dX1_waste_9 rfl hl (by decide) rfl (fun ls hl => ?_)
  refine x_aload_n C dX1_waste_10 rfl hl 1 rfl ?_
  refine x_dup C dX1_waste_11 rfl ?_
  refine x_get C inX2 hP 0 rfl rfl 16 (by decide) wf_X1_123 rfl dX1_waste_12 ?_
  refine x_aload_n C dX1_waste_15 rfl hl 1 rfl ?_
  refine x_get C inX2 hP 0 rfl rfl 7 (by decide) wf_X1_59 rfl dX1_waste_16 ?_
  refine x_iload_n C dX1_waste_19 rfl hl 2 rfl ?_
  refine x_iconst (v := (4 : Int32)) C dX1_waste_20 (by decide) ?_
  refine x_callV (As := [.int _, .int _]) (n := 2) C (kS_get l D cI cS aS _ 7 (by decide) _ _) (fun hh => nomatch hh) wm_X1_15 wi_X3_get we_X3_get wz_X3 wc_X3_get (by decide +kernel) rfl hP hD hS hA 15 1 rfl rfl rfl hl.1 dX1_waste_21 rfl (Nat.le_of_ble_eq_true rfl) ⟨Nat.le_of_ble_eq_true rfl, Nat.le_of_ble_eq_true rfl⟩ ⟨Nat.zero_le _, Nat.zero_le _⟩ (fun H locs hP hD hS => ?_)
  refine x_iadd C dX1_waste_24 ?_
  refine x_putM (wS cI aS) C h inX2 tyX2 tyX2_ok nmX2 hP hD hS 0 rfl rfl 16 (by decide) wf_X1_123 rfl (ft := .int) (by decide +kernel) rfl rfl (Nat.le_of_ble_eq_true rfl) rfl dX1_waste_25 (fun S5 h H locs hP hD hS => ?_)
  refine x_aload_n C dX1_waste_28 rfl hl 1 rfl ?_
  refine x_get C inX2 hP 0 rfl rfl 7 (by decide) wf_X1_59 rfl dX1_waste_29 ?_
  refine x_iload_n C dX1_waste_32 rfl hl 2 rfl ?_
  refine x_iconst (v := (0 : Int32)) C dX1_waste_33 (by decide) ?_
  refine x_bipush (v := (-9 : Int32)) C dX1_waste_34 (by decide) ?_
  refine x_callV (As := [.int _, .int _, .int _]) (n := 3) C (kS_put l D cI cS aS _ 7 (by decide) _ _ _) (fun hh => nomatch hh) wm_X1_28 wi_X3_put we_X3_put wz_X3 wc_X3_put (by decide +kernel) rfl hP hD hS hA 15 1 rfl rfl rfl hl.1 dX1_waste_36 rfl (Nat.le_of_ble_eq_true rfl) ⟨Nat.le_of_ble_eq_true rfl, Nat.le_of_ble_eq_true rfl⟩ ⟨Nat.zero_le _, Nat.zero_le _⟩ (fun H locs hP hD hS => ?_)
  refine x_nmS (wS cI aS) h hP hD (fun S6 h hP hD => ?_)
  refine x_iload_n C dX1_waste_39 rfl hl 0 rfl ?_
  exact RETh dX1_waste_40 h hP hD hS
theorem dX1_abandon_0 : decode cX1_abandon 0 = .ok (.aload_n 0, 1) := by decide +kernel
theorem dX1_abandon_1 : decode cX1_abandon 1 = .ok (.getfield 21, 3) := by decide +kernel
theorem dX1_abandon_4 : decode cX1_abandon 4 = .ok (.iconst 0, 1) := by decide +kernel
theorem dX1_abandon_5 : decode cX1_abandon 5 = .ok (.iload_n 1, 1) := by decide +kernel
theorem dX1_abandon_6 : decode cX1_abandon 6 = .ok (.invokevirtual 114, 3) := by decide +kernel
theorem dX1_abandon_9 : decode cX1_abandon 9 = .ok (.istore_n 2, 1) := by decide +kernel
theorem dX1_abandon_10 : decode cX1_abandon 10 = .ok (.aload_n 0, 1) := by decide +kernel
theorem dX1_abandon_11 : decode cX1_abandon 11 = .ok (.getfield 59, 3) := by decide +kernel
theorem dX1_abandon_14 : decode cX1_abandon 14 = .ok (.iconst 0, 1) := by decide +kernel
theorem dX1_abandon_15 : decode cX1_abandon 15 = .ok (.iload_n 1, 1) := by decide +kernel
theorem dX1_abandon_16 : decode cX1_abandon 16 = .ok (.invokevirtual 114, 3) := by decide +kernel
theorem dX1_abandon_19 : decode cX1_abandon 19 = .ok (.istore_n 3, 1) := by decide +kernel
theorem dX1_abandon_20 : decode cX1_abandon 20 = .ok (.aload_n 0, 1) := by decide +kernel
theorem dX1_abandon_21 : decode cX1_abandon 21 = .ok (.getfield 101, 3) := by decide +kernel
theorem dX1_abandon_24 : decode cX1_abandon 24 = .ok (.iconst 2, 1) := by decide +kernel
theorem dX1_abandon_25 : decode cX1_abandon 25 = .ok (.iconst 0, 1) := by decide +kernel
theorem dX1_abandon_26 : decode cX1_abandon 26 = .ok (.invokevirtual 15, 3) := by decide +kernel
theorem dX1_abandon_29 : decode cX1_abandon 29 = .ok (.ifCond .ne 26, 3) := by decide +kernel
theorem dX1_abandon_32 : decode cX1_abandon 32 = .ok (.aload_n 0, 1) := by decide +kernel
theorem dX1_abandon_33 : decode cX1_abandon 33 = .ok (.getfield 21, 3) := by decide +kernel
theorem dX1_abandon_36 : decode cX1_abandon 36 = .ok (.iload_n 2, 1) := by decide +kernel
theorem dX1_abandon_37 : decode cX1_abandon 37 = .ok (.iconst 0, 1) := by decide +kernel
theorem dX1_abandon_38 : decode cX1_abandon 38 = .ok (.bipush (-8), 2) := by decide +kernel
theorem dX1_abandon_40 : decode cX1_abandon 40 = .ok (.invokevirtual 28, 3) := by decide +kernel
theorem dX1_abandon_43 : decode cX1_abandon 43 = .ok (.aload_n 0, 1) := by decide +kernel
theorem dX1_abandon_44 : decode cX1_abandon 44 = .ok (.getfield 59, 3) := by decide +kernel
theorem dX1_abandon_47 : decode cX1_abandon 47 = .ok (.iload_n 3, 1) := by decide +kernel
theorem dX1_abandon_48 : decode cX1_abandon 48 = .ok (.iconst 0, 1) := by decide +kernel
theorem dX1_abandon_49 : decode cX1_abandon 49 = .ok (.bipush (-8), 2) := by decide +kernel
theorem dX1_abandon_51 : decode cX1_abandon 51 = .ok (.invokevirtual 28, 3) := by decide +kernel
theorem dX1_abandon_54 : decode cX1_abandon 54 = .ok (.return_, 1) := by decide +kernel
theorem dX1_abandon_55 : decode cX1_abandon 55 = .ok (.aload_n 0, 1) := by decide +kernel
theorem dX1_abandon_56 : decode cX1_abandon 56 = .ok (.getfield 21, 3) := by decide +kernel
theorem dX1_abandon_59 : decode cX1_abandon 59 = .ok (.iload_n 2, 1) := by decide +kernel
theorem dX1_abandon_60 : decode cX1_abandon 60 = .ok (.invokevirtual 70, 3) := by decide +kernel
theorem dX1_abandon_63 : decode cX1_abandon 63 = .ok (.iload_n 3, 1) := by decide +kernel
theorem dX1_abandon_64 : decode cX1_abandon 64 = .ok (.bipush (-9), 2) := by decide +kernel
theorem dX1_abandon_66 : decode cX1_abandon 66 = .ok (.if_icmp .eq 44, 3) := by decide +kernel
theorem dX1_abandon_69 : decode cX1_abandon 69 = .ok (.aload_n 0, 1) := by decide +kernel
theorem dX1_abandon_70 : decode cX1_abandon 70 = .ok (.getfield 38, 3) := by decide +kernel
theorem dX1_abandon_73 : decode cX1_abandon 73 = .ok (.aload_n 0, 1) := by decide +kernel
theorem dX1_abandon_74 : decode cX1_abandon 74 = .ok (.getfield 38, 3) := by decide +kernel
theorem dX1_abandon_77 : decode cX1_abandon 77 = .ok (.iconst 0, 1) := by decide +kernel
theorem dX1_abandon_78 : decode cX1_abandon 78 = .ok (.iload_n 3, 1) := by decide +kernel
theorem dX1_abandon_79 : decode cX1_abandon 79 = .ok (.invokevirtual 114, 3) := by decide +kernel
theorem dX1_abandon_82 : decode cX1_abandon 82 = .ok (.invokevirtual 70, 3) := by decide +kernel
theorem dX1_abandon_85 : decode cX1_abandon 85 = .ok (.aload_n 0, 1) := by decide +kernel
theorem dX1_abandon_86 : decode cX1_abandon 86 = .ok (.getfield 44, 3) := by decide +kernel
theorem dX1_abandon_89 : decode cX1_abandon 89 = .ok (.aload_n 0, 1) := by decide +kernel
theorem dX1_abandon_90 : decode cX1_abandon 90 = .ok (.getfield 44, 3) := by decide +kernel
theorem dX1_abandon_93 : decode cX1_abandon 93 = .ok (.iconst 0, 1) := by decide +kernel
theorem dX1_abandon_94 : decode cX1_abandon 94 = .ok (.iload_n 3, 1) := by decide +kernel
theorem dX1_abandon_95 : decode cX1_abandon 95 = .ok (.invokevirtual 114, 3) := by decide +kernel
theorem dX1_abandon_98 : decode cX1_abandon 98 = .ok (.iconst 0, 1) := by decide +kernel
theorem dX1_abandon_99 : decode cX1_abandon 99 = .ok (.bipush (-9), 2) := by decide +kernel
theorem dX1_abandon_101 : decode cX1_abandon 101 = .ok (.invokevirtual 28, 3) := by decide +kernel
theorem dX1_abandon_104 : decode cX1_abandon 104 = .ok (.aload_n 0, 1) := by decide +kernel
theorem dX1_abandon_105 : decode cX1_abandon 105 = .ok (.iload_n 3, 1) := by decide +kernel
theorem dX1_abandon_106 : decode cX1_abandon 106 = .ok (.invokestatic 78, 3) := by decide +kernel
theorem dX1_abandon_109 : decode cX1_abandon 109 = .ok (.pop, 1) := by decide +kernel
theorem dX1_abandon_110 : decode cX1_abandon 110 = .ok (.return_, 1) := by decide +kernel
def bfX1_abandon_110 (p2 : Int32) (S : StS) : Option (StS) :=
  some S
def fX1_abandon (p2 : Int32) (S : StS) : Option (StS) :=
  nm ((sfind 6 S (0 : Int32) p2)) fun v9 => nm ((sfind 7 S (0 : Int32) p2)) fun v10 => (if (sget 4 S (2 : Int32) (0 : Int32)) = 0 then nm (sput 6 S v9 (0 : Int32) (-8 : Int32)) fun S15 => nm (sput 7 S15 v10 (0 : Int32) (-8 : Int32)) fun S16 => some S16 else nm (sdrop 6 S v9) fun S11 => (if v10 = (-9 : Int32) then bfX1_abandon_110 p2  S11 else nm (sdrop 8 S11 ((sfind 8 S11 (0 : Int32) v10))) fun S12 => nm (sput 9 S12 ((sfind 9 S12 (0 : Int32) v10)) (0 : Int32) (-9 : Int32)) fun S13 => ob (fX1_waste v10 S13) fun u14 => bfX1_abandon_110 p2  u14.2))
set_option maxHeartbeats 4000000 in
set_option maxRecDepth 100000 in
theorem kX1_abandon (l : Launch) (D : va_G) (cI cS : ClassId) (aS : Nat → Nat) (p2 : Int32) (S : StS) {q : StS} (h : fX1_abandon p2 S = some q) : Mc l D (tyL cI cS) false yX1_abandon cX1_abandon 4 none 3 [.ref (aS 0), .int p2] (wS cI aS S) none (wS cI aS q) := by
  refine Mc_of RX1 (by decide +kernel) rfl wc_X1_abandon (Nat.le_of_ble_eq_true rfl) ?_
  intro p e s m args below meth c A Q ls C hA hz hP hD hS hl RET
  have RETh : ∀ {pc : Nat} {ls : Array Slot} {H : Heap} {locs : List Loc} {S1 : StS}, decode cX1_abandon pc = .ok (.return_, 1) → some S1 = some q → va_P D vwCl (wS cI aS S1) H → va_D A (wS cI aS S1) → va_S A s.heap H locs → W p l e (rmL 3) s m args below meth c H locs 0 0 Q (F0 m pc ls []) := by
    intro pc ls H locs S1 hd h hP hD hS; cases h; exact RET (x_vret C hd) hP hD hS
  have B110 : ∀ (S : StS), bfX1_abandon_110 p2 S = some q → ∀ (H : Heap) (locs : List Loc) (ls : Array Slot), va_P D vwCl (wS cI aS S) H → va_D A (wS cI aS S) → va_S A s.heap H locs → lv_has ls 4 [] → W p l e (rmL 3) s m args below meth c H locs 0 0 Q (F0 m 110 ls []) := by
    intro S h H locs ls hP hD hS hl
    exact RETh dX1_abandon_110 h hP hD hS
  refine x_aload_n C dX1_abandon_0 rfl hl 0 rfl ?_
  refine x_get C inX2 hP 0 rfl rfl 6 (by decide) wf_X1_21 rfl dX1_abandon_1 ?_
  refine x_iconst (v := (0 : Int32)) C dX1_abandon_4 (by decide) ?_
  refine x_iload_n C dX1_abandon_5 rfl hl 1 rfl ?_
  refine x_callV (As := [.int _, .int _]) (n := 2) C (kS_find l D cI cS aS _ 6 (by decide) _ _) (fun hh => nomatch hh) wm_X1_114 wi_X3_find we_X3_find wz_X3 wc_X3_find (by decide +kernel) rfl hP hD hS hA 13 1 rfl rfl rfl hl.1 dX1_abandon_6 rfl (Nat.le_of_ble_eq_true rfl) ⟨Nat.le_of_ble_eq_true rfl, Nat.le_of_ble_eq_true rfl⟩ ⟨Nat.zero_le _, Nat.zero_le _⟩ (fun H locs hP hD hS => ?_)
  refine x_nmi h (fun v9 h => ?_)
  refine x_istore_n (lv' := [(2, .int v9), (0, .ref (aS 0)), (1, .int p2)]) C dX1_abandon_9 rfl hl (by decide) rfl (fun ls hl => ?_)
  refine x_aload_n C dX1_abandon_10 rfl hl 1 rfl ?_
  refine x_get C inX2 hP 0 rfl rfl 7 (by decide) wf_X1_59 rfl dX1_abandon_11 ?_
  refine x_iconst (v := (0 : Int32)) C dX1_abandon_14 (by decide) ?_
  refine x_iload_n C dX1_abandon_15 rfl hl 2 rfl ?_
  refine x_callV (As := [.int _, .int _]) (n := 2) C (kS_find l D cI cS aS _ 7 (by decide) _ _) (fun hh => nomatch hh) wm_X1_114 wi_X3_find we_X3_find wz_X3 wc_X3_find (by decide +kernel) rfl hP hD hS hA 15 1 rfl rfl rfl hl.1 dX1_abandon_16 rfl (Nat.le_of_ble_eq_true rfl) ⟨Nat.le_of_ble_eq_true rfl, Nat.le_of_ble_eq_true rfl⟩ ⟨Nat.zero_le _, Nat.zero_le _⟩ (fun H locs hP hD hS => ?_)
  refine x_nmi h (fun v10 h => ?_)
  refine x_istore_n (lv' := [(3, .int v10), (2, .int v9), (0, .ref (aS 0)), (1, .int p2)]) C dX1_abandon_19 rfl hl (by decide) rfl (fun ls hl => ?_)
  refine x_aload_n C dX1_abandon_20 rfl hl 2 rfl ?_
  refine x_get C inX2 hP 0 rfl rfl 4 (by decide) wf_X1_101 rfl dX1_abandon_21 ?_
  refine x_iconst (v := (2 : Int32)) C dX1_abandon_24 (by decide) ?_
  refine x_iconst (v := (0 : Int32)) C dX1_abandon_25 (by decide) ?_
  refine x_callV (As := [.int _, .int _]) (n := 2) C (kS_get l D cI cS aS _ 4 (by decide) _ _) (fun hh => nomatch hh) wm_X1_15 wi_X3_get we_X3_get wz_X3 wc_X3_get (by decide +kernel) rfl hP hD hS hA 9 1 rfl rfl rfl hl.1 dX1_abandon_26 rfl (Nat.le_of_ble_eq_true rfl) ⟨Nat.le_of_ble_eq_true rfl, Nat.le_of_ble_eq_true rfl⟩ ⟨Nat.zero_le _, Nat.zero_le _⟩ (fun H locs hP hD hS => ?_)
  refine x_if_ne (tgt := 55) C h dX1_abandon_29 (by decide) (fun h => ?_) (fun h => ?_)
  · refine x_aload_n C dX1_abandon_55 rfl hl 2 rfl ?_
    refine x_get C inX2 hP 0 rfl rfl 6 (by decide) wf_X1_21 rfl dX1_abandon_56 ?_
    refine x_iload_n C dX1_abandon_59 rfl hl 1 rfl ?_
    refine x_callV (As := [.int _]) (n := 1) C (kS_drop l D cI cS aS _ 6 (by decide) _) (fun hh => nomatch hh) wm_X1_70 wi_X3_drop we_X3_drop wz_X3 wc_X3_drop (by decide +kernel) rfl hP hD hS hA 13 1 rfl rfl rfl hl.1 dX1_abandon_60 rfl (Nat.le_of_ble_eq_true rfl) ⟨Nat.le_of_ble_eq_true rfl, Nat.le_of_ble_eq_true rfl⟩ ⟨Nat.zero_le _, Nat.zero_le _⟩ (fun H locs hP hD hS => ?_)
    refine x_nmS (wS cI aS) h hP hD (fun S11 h hP hD => ?_)
    refine x_iload_n C dX1_abandon_63 rfl hl 0 rfl ?_
    refine x_bipush (v := (-9 : Int32)) C dX1_abandon_64 (by decide) ?_
    refine x_icmp_eq (tgt := 110) C h dX1_abandon_66 (by decide) (fun h => ?_) (fun h => ?_)
    · exact B110 _ h _ _ _ hP hD hS (lv_sub hl [] rfl)
    · refine x_aload_n C dX1_abandon_69 rfl hl 2 rfl ?_
      refine x_get C inX2 hP 0 rfl rfl 8 (by decide) wf_X1_38 rfl dX1_abandon_70 ?_
      refine x_aload_n C dX1_abandon_73 rfl hl 2 rfl ?_
      refine x_get C inX2 hP 0 rfl rfl 8 (by decide) wf_X1_38 rfl dX1_abandon_74 ?_
      refine x_iconst (v := (0 : Int32)) C dX1_abandon_77 (by decide) ?_
      refine x_iload_n C dX1_abandon_78 rfl hl 0 rfl ?_
      refine x_callV (As := [.int _, .int _]) (n := 2) C (kS_find l D cI cS aS _ 8 (by decide) _ _) (fun hh => nomatch hh) wm_X1_114 wi_X3_find we_X3_find wz_X3 wc_X3_find (by decide +kernel) rfl hP hD hS hA 17 1 rfl rfl rfl hl.1 dX1_abandon_79 rfl (Nat.le_of_ble_eq_true rfl) ⟨Nat.le_of_ble_eq_true rfl, Nat.le_of_ble_eq_true rfl⟩ ⟨Nat.zero_le _, Nat.zero_le _⟩ (fun H locs hP hD hS => ?_)
      refine x_callV (As := [.int _]) (n := 1) C (kS_drop l D cI cS aS _ 8 (by decide) _) (fun hh => nomatch hh) wm_X1_70 wi_X3_drop we_X3_drop wz_X3 wc_X3_drop (by decide +kernel) rfl hP hD hS hA 17 1 rfl rfl rfl hl.1 dX1_abandon_82 rfl (Nat.le_of_ble_eq_true rfl) ⟨Nat.le_of_ble_eq_true rfl, Nat.le_of_ble_eq_true rfl⟩ ⟨Nat.zero_le _, Nat.zero_le _⟩ (fun H locs hP hD hS => ?_)
      refine x_nmS (wS cI aS) h hP hD (fun S12 h hP hD => ?_)
      refine x_aload_n C dX1_abandon_85 rfl hl 2 rfl ?_
      refine x_get C inX2 hP 0 rfl rfl 9 (by decide) wf_X1_44 rfl dX1_abandon_86 ?_
      refine x_aload_n C dX1_abandon_89 rfl hl 2 rfl ?_
      refine x_get C inX2 hP 0 rfl rfl 9 (by decide) wf_X1_44 rfl dX1_abandon_90 ?_
      refine x_iconst (v := (0 : Int32)) C dX1_abandon_93 (by decide) ?_
      refine x_iload_n C dX1_abandon_94 rfl hl 0 rfl ?_
      refine x_callV (As := [.int _, .int _]) (n := 2) C (kS_find l D cI cS aS _ 9 (by decide) _ _) (fun hh => nomatch hh) wm_X1_114 wi_X3_find we_X3_find wz_X3 wc_X3_find (by decide +kernel) rfl hP hD hS hA 19 1 rfl rfl rfl hl.1 dX1_abandon_95 rfl (Nat.le_of_ble_eq_true rfl) ⟨Nat.le_of_ble_eq_true rfl, Nat.le_of_ble_eq_true rfl⟩ ⟨Nat.zero_le _, Nat.zero_le _⟩ (fun H locs hP hD hS => ?_)
      refine x_iconst (v := (0 : Int32)) C dX1_abandon_98 (by decide) ?_
      refine x_bipush (v := (-9 : Int32)) C dX1_abandon_99 (by decide) ?_
      refine x_callV (As := [.int _, .int _, .int _]) (n := 3) C (kS_put l D cI cS aS _ 9 (by decide) _ _ _) (fun hh => nomatch hh) wm_X1_28 wi_X3_put we_X3_put wz_X3 wc_X3_put (by decide +kernel) rfl hP hD hS hA 19 1 rfl rfl rfl hl.1 dX1_abandon_101 rfl (Nat.le_of_ble_eq_true rfl) ⟨Nat.le_of_ble_eq_true rfl, Nat.le_of_ble_eq_true rfl⟩ ⟨Nat.zero_le _, Nat.zero_le _⟩ (fun H locs hP hD hS => ?_)
      refine x_nmS (wS cI aS) h hP hD (fun S13 h hP hD => ?_)
      refine x_aload_n C dX1_abandon_104 rfl hl 2 rfl ?_
      refine x_iload_n C dX1_abandon_105 rfl hl 0 rfl ?_
      obtain ⟨u14, hu14, h⟩ := ob_some h
      refine x_callS (As := [.ref _, .int _]) (n := 2) C (kX1_waste l D cI cS aS _ _ hu14) (fun hh => nomatch hh) wm_X1_78 wt_X1_waste wz_X1 wc_X1_waste (by decide +kernel) rfl hP hD hS hA hl.1 dX1_abandon_106 rfl (Nat.le_of_ble_eq_true rfl) ⟨Nat.le_of_ble_eq_true rfl, Nat.le_of_ble_eq_true rfl⟩ ⟨Nat.zero_le _, Nat.zero_le _⟩ (fun H locs hP hD hS => ?_)
      refine x_pop C dX1_abandon_109 rfl ?_
      exact B110 _ h _ _ _ hP hD hS (lv_sub hl [] rfl)
  · refine x_aload_n C dX1_abandon_32 rfl hl 2 rfl ?_
    refine x_get C inX2 hP 0 rfl rfl 6 (by decide) wf_X1_21 rfl dX1_abandon_33 ?_
    refine x_iload_n C dX1_abandon_36 rfl hl 1 rfl ?_
    refine x_iconst (v := (0 : Int32)) C dX1_abandon_37 (by decide) ?_
    refine x_bipush (v := (-8 : Int32)) C dX1_abandon_38 (by decide) ?_
    refine x_callV (As := [.int _, .int _, .int _]) (n := 3) C (kS_put l D cI cS aS _ 6 (by decide) _ _ _) (fun hh => nomatch hh) wm_X1_28 wi_X3_put we_X3_put wz_X3 wc_X3_put (by decide +kernel) rfl hP hD hS hA 13 1 rfl rfl rfl hl.1 dX1_abandon_40 rfl (Nat.le_of_ble_eq_true rfl) ⟨Nat.le_of_ble_eq_true rfl, Nat.le_of_ble_eq_true rfl⟩ ⟨Nat.zero_le _, Nat.zero_le _⟩ (fun H locs hP hD hS => ?_)
    refine x_nmS (wS cI aS) h hP hD (fun S15 h hP hD => ?_)
    refine x_aload_n C dX1_abandon_43 rfl hl 2 rfl ?_
    refine x_get C inX2 hP 0 rfl rfl 7 (by decide) wf_X1_59 rfl dX1_abandon_44 ?_
    refine x_iload_n C dX1_abandon_47 rfl hl 0 rfl ?_
    refine x_iconst (v := (0 : Int32)) C dX1_abandon_48 (by decide) ?_
    refine x_bipush (v := (-8 : Int32)) C dX1_abandon_49 (by decide) ?_
    refine x_callV (As := [.int _, .int _, .int _]) (n := 3) C (kS_put l D cI cS aS _ 7 (by decide) _ _ _) (fun hh => nomatch hh) wm_X1_28 wi_X3_put we_X3_put wz_X3 wc_X3_put (by decide +kernel) rfl hP hD hS hA 15 1 rfl rfl rfl hl.1 dX1_abandon_51 rfl (Nat.le_of_ble_eq_true rfl) ⟨Nat.le_of_ble_eq_true rfl, Nat.le_of_ble_eq_true rfl⟩ ⟨Nat.zero_le _, Nat.zero_le _⟩ (fun H locs hP hD hS => ?_)
    refine x_nmS (wS cI aS) h hP hD (fun S16 h hP hD => ?_)
    exact RETh dX1_abandon_54 h hP hD hS
theorem dX2_nextDue_0 : decode cX2_nextDue 0 = .ok (.iconst 0, 1) := by decide +kernel
theorem dX2_nextDue_1 : decode cX2_nextDue 1 = .ok (.istore_n 3, 1) := by decide +kernel
theorem dX2_nextDue_2 : decode cX2_nextDue 2 = .ok (.iload_n 3, 1) := by decide +kernel
theorem dX2_nextDue_3 : decode cX2_nextDue 3 = .ok (.aload_n 0, 1) := by decide +kernel
theorem dX2_nextDue_4 : decode cX2_nextDue 4 = .ok (.getfield 32, 3) := by decide +kernel
theorem dX2_nextDue_7 : decode cX2_nextDue 7 = .ok (.invokevirtual 98, 3) := by decide +kernel
theorem dX2_nextDue_10 : decode cX2_nextDue 10 = .ok (.if_icmp .ge 81, 3) := by decide +kernel
theorem dX2_nextDue_13 : decode cX2_nextDue 13 = .ok (.aload_n 0, 1) := by decide +kernel
theorem dX2_nextDue_14 : decode cX2_nextDue 14 = .ok (.getfield 32, 3) := by decide +kernel
theorem dX2_nextDue_17 : decode cX2_nextDue 17 = .ok (.iload_n 3, 1) := by decide +kernel
theorem dX2_nextDue_18 : decode cX2_nextDue 18 = .ok (.iconst 0, 1) := by decide +kernel
theorem dX2_nextDue_19 : decode cX2_nextDue 19 = .ok (.invokevirtual 91, 3) := by decide +kernel
theorem dX2_nextDue_22 : decode cX2_nextDue 22 = .ok (.iload_n 1, 1) := by decide +kernel
theorem dX2_nextDue_23 : decode cX2_nextDue 23 = .ok (.if_icmp .le 7, 3) := by decide +kernel
theorem dX2_nextDue_26 : decode cX2_nextDue 26 = .ok (.iconst 1, 1) := by decide +kernel
theorem dX2_nextDue_27 : decode cX2_nextDue 27 = .ok (.goto 4, 3) := by decide +kernel
theorem dX2_nextDue_30 : decode cX2_nextDue 30 = .ok (.iconst 0, 1) := by decide +kernel
theorem dX2_nextDue_31 : decode cX2_nextDue 31 = .ok (.istore 4, 2) := by decide +kernel
theorem dX2_nextDue_33 : decode cX2_nextDue 33 = .ok (.iload 4, 2) := by decide +kernel
theorem dX2_nextDue_35 : decode cX2_nextDue 35 = .ok (.ifCond .eq 50, 3) := by decide +kernel
theorem dX2_nextDue_38 : decode cX2_nextDue 38 = .ok (.aload_n 0, 1) := by decide +kernel
theorem dX2_nextDue_39 : decode cX2_nextDue 39 = .ok (.getfield 32, 3) := by decide +kernel
theorem dX2_nextDue_42 : decode cX2_nextDue 42 = .ok (.iload_n 3, 1) := by decide +kernel
theorem dX2_nextDue_43 : decode cX2_nextDue 43 = .ok (.iconst 4, 1) := by decide +kernel
theorem dX2_nextDue_44 : decode cX2_nextDue 44 = .ok (.invokevirtual 91, 3) := by decide +kernel
theorem dX2_nextDue_47 : decode cX2_nextDue 47 = .ok (.iload_n 2, 1) := by decide +kernel
theorem dX2_nextDue_48 : decode cX2_nextDue 48 = .ok (.ifCond .eq 7, 3) := by decide +kernel
theorem dX2_nextDue_51 : decode cX2_nextDue 51 = .ok (.iconst 1, 1) := by decide +kernel
theorem dX2_nextDue_52 : decode cX2_nextDue 52 = .ok (.goto 4, 3) := by decide +kernel
theorem dX2_nextDue_55 : decode cX2_nextDue 55 = .ok (.iconst 0, 1) := by decide +kernel
theorem dX2_nextDue_56 : decode cX2_nextDue 56 = .ok (.if_icmp .ne 29, 3) := by decide +kernel
theorem dX2_nextDue_59 : decode cX2_nextDue 59 = .ok (.aload_n 0, 1) := by decide +kernel
theorem dX2_nextDue_60 : decode cX2_nextDue 60 = .ok (.getfield 32, 3) := by decide +kernel
theorem dX2_nextDue_63 : decode cX2_nextDue 63 = .ok (.iload_n 3, 1) := by decide +kernel
theorem dX2_nextDue_64 : decode cX2_nextDue 64 = .ok (.iconst 5, 1) := by decide +kernel
theorem dX2_nextDue_65 : decode cX2_nextDue 65 = .ok (.invokevirtual 91, 3) := by decide +kernel
theorem dX2_nextDue_68 : decode cX2_nextDue 68 = .ok (.aload_n 0, 1) := by decide +kernel
theorem dX2_nextDue_69 : decode cX2_nextDue 69 = .ok (.getfield 72, 3) := by decide +kernel
theorem dX2_nextDue_72 : decode cX2_nextDue 72 = .ok (.if_icmp .gt 13, 3) := by decide +kernel
theorem dX2_nextDue_75 : decode cX2_nextDue 75 = .ok (.aload_n 0, 1) := by decide +kernel
theorem dX2_nextDue_76 : decode cX2_nextDue 76 = .ok (.getfield 32, 3) := by decide +kernel
theorem dX2_nextDue_79 : decode cX2_nextDue 79 = .ok (.iload_n 3, 1) := by decide +kernel
theorem dX2_nextDue_80 : decode cX2_nextDue 80 = .ok (.iconst 0, 1) := by decide +kernel
theorem dX2_nextDue_81 : decode cX2_nextDue 81 = .ok (.invokevirtual 91, 3) := by decide +kernel
theorem dX2_nextDue_84 : decode cX2_nextDue 84 = .ok (.ireturn, 1) := by decide +kernel
theorem dX2_nextDue_85 : decode cX2_nextDue 85 = .ok (.iinc 3 1, 3) := by decide +kernel
theorem dX2_nextDue_88 : decode cX2_nextDue 88 = .ok (.goto (-86), 3) := by decide +kernel
theorem dX2_nextDue_91 : decode cX2_nextDue 91 = .ok (.bipush (-9), 2) := by decide +kernel
theorem dX2_nextDue_93 : decode cX2_nextDue 93 = .ok (.ireturn, 1) := by decide +kernel
def bfX2_nextDue_85 (p1 : Int32) (p2 : Int32) (S : StS) (K2 : Int32 → Option (Int32)) (x3 : Int32) : Option (Int32) :=
  K2 ((x3 + (1 : Int32)))
def bfX2_nextDue_56 (p1 : Int32) (p2 : Int32) (S : StS) (K2 : Int32 → Option (Int32)) (x3 : Int32) (s0 : Int32) (s1 : Int32) : Option (Int32) :=
  (if s0 = s1 then (if (S.2 12) < (sget 5 S x3 (5 : Int32)) then bfX2_nextDue_85 p1 p2 S K2 x3 else some (sget 5 S x3 (0 : Int32))) else bfX2_nextDue_85 p1 p2 S K2 x3)
def bfX2_nextDue_31 (p1 : Int32) (p2 : Int32) (S : StS) (K2 : Int32 → Option (Int32)) (x3 : Int32) (s0 : Int32) : Option (Int32) :=
  (if s0 = 0 then bfX2_nextDue_85 p1 p2 S K2 x3 else (if p2 = 0 then bfX2_nextDue_56 p1 p2 S K2 x3 ((sget 5 S x3 (4 : Int32))) ((0 : Int32)) else bfX2_nextDue_56 p1 p2 S K2 x3 ((sget 5 S x3 (4 : Int32))) ((1 : Int32))))
def bfX2_nextDue_2 (p1 : Int32) (p2 : Int32) (S : StS) (K2 : Int32 → Option (Int32)) (x3 : Int32) : Option (Int32) :=
  (if (ssize 5 S) ≤ x3 then some (-9 : Int32) else (if (sget 5 S x3 (0 : Int32)) ≤ p1 then bfX2_nextDue_31 p1 p2 S K2 x3 ((0 : Int32)) else bfX2_nextDue_31 p1 p2 S K2 x3 ((1 : Int32))))
def fX2_nextDue (p1 : Int32) (p2 : Int32) (S : StS) : Option (Int32) :=
  iter (bfX2_nextDue_2 p1 p2 S) FU ((0 : Int32))
set_option maxHeartbeats 4000000 in
set_option maxRecDepth 100000 in
theorem kX2_nextDue (l : Launch) (D : va_G) (cI cS : ClassId) (aS : Nat → Nat) (p1 : Int32) (p2 : Int32) (S : StS) {q : Int32} (h : fX2_nextDue p1 p2 S = some q) : Mc l D (tyL cI cS) false yX2_nextDue cX2_nextDue 5 (some .int) 2 [.ref (aS 0), .int p1, .int p2] (wS cI aS S) (some (.int q)) (wS cI aS S) := by
  refine Mc_of RX2 (by decide +kernel) rfl wc_X2_nextDue (Nat.le_of_ble_eq_true rfl) ?_
  intro p e s m args below meth c A Q ls C hA hz hP hD hS hl RET
  have RETh : ∀ {pc : Nat} {ls : Array Slot} {H : Heap} {locs : List Loc} {x : Int32} , decode cX2_nextDue pc = .ok (.ireturn, 1) → some x = some q → va_P D vwCl (wS cI aS S) H → va_D A (wS cI aS S) → va_S A s.heap H locs → W p l e (rmL 2) s m args below meth c H locs 0 0 Q (F0 m pc ls [.int x]) := by
    intro pc ls H locs x hd h hP hD hS; cases h; exact RET (x_iret C hd) hP hD hS
  have B85 : ∀ (K2 : Int32 → Option (Int32)) (ih2 : ∀ x, K2 x = some q → (fun (x3 : Int32) => ∀ (H : Heap) (locs : List Loc) (ls : Array Slot), va_P D vwCl (wS cI aS S) H → va_D A (wS cI aS S) → va_S A s.heap H locs → lv_has ls 5 [(0, .ref (aS 0)), (1, .int p1), (2, .int p2), (3, .int x3)] → W p l e (rmL 2) s m args below meth c H locs 0 0 Q (F0 m 2 ls [])) x) (x3 : Int32), bfX2_nextDue_85 p1 p2 S K2 x3 = some q → ∀ (H : Heap) (locs : List Loc) (ls : Array Slot), va_P D vwCl (wS cI aS S) H → va_D A (wS cI aS S) → va_S A s.heap H locs → lv_has ls 5 [(0, .ref (aS 0)), (1, .int p1), (2, .int p2), (3, .int x3)] → W p l e (rmL 2) s m args below meth c H locs 0 0 Q (F0 m 85 ls []) := by
    intro K2 ih2 x3 h H locs ls hP hD hS hl
    refine x_iinc (v := (x3 + (1 : Int32))) (lv' := [(3, .int (x3 + (1 : Int32))), (0, .ref (aS 0)), (1, .int p1), (2, .int p2)]) C dX2_nextDue_85 hl (k := 3) rfl rfl (by decide) rfl (fun ls hl => ?_)
    refine x_goto (tgt := 2) C dX2_nextDue_88 (by decide) ?_
    exact ih2 _ h _ _ _ hP hD hS (lv_sub hl [1, 2, 3, 0] rfl)
  have B56 : ∀ (K2 : Int32 → Option (Int32)) (ih2 : ∀ x, K2 x = some q → (fun (x3 : Int32) => ∀ (H : Heap) (locs : List Loc) (ls : Array Slot), va_P D vwCl (wS cI aS S) H → va_D A (wS cI aS S) → va_S A s.heap H locs → lv_has ls 5 [(0, .ref (aS 0)), (1, .int p1), (2, .int p2), (3, .int x3)] → W p l e (rmL 2) s m args below meth c H locs 0 0 Q (F0 m 2 ls [])) x) (x3 : Int32) (s0 : Int32) (s1 : Int32), bfX2_nextDue_56 p1 p2 S K2 x3 s0 s1 = some q → ∀ (H : Heap) (locs : List Loc) (ls : Array Slot), va_P D vwCl (wS cI aS S) H → va_D A (wS cI aS S) → va_S A s.heap H locs → lv_has ls 5 [(0, .ref (aS 0)), (1, .int p1), (2, .int p2), (3, .int x3)] → W p l e (rmL 2) s m args below meth c H locs 0 0 Q (F0 m 56 ls [.int s1, .int s0]) := by
    intro K2 ih2 x3 s0 s1 h H locs ls hP hD hS hl
    refine x_icmp_ne (tgt := 85) C h dX2_nextDue_56 (by decide) (fun h => ?_) (fun h => ?_)
    · exact B85 K2 ih2 _ h _ _ _ hP hD hS hl
    · refine x_aload_n C dX2_nextDue_59 rfl hl 0 rfl ?_
      refine x_get C inX2 hP 0 rfl rfl 5 (by decide) wf_X2_32 rfl dX2_nextDue_60 ?_
      refine x_iload_n C dX2_nextDue_63 rfl hl 3 rfl ?_
      refine x_iconst (v := (5 : Int32)) C dX2_nextDue_64 (by decide) ?_
      refine x_callV (As := [.int _, .int _]) (n := 2) C (kS_get l D cI cS aS _ 5 (by decide) _ _) (fun hh => nomatch hh) wm_X2_91 wi_X3_get we_X3_get wz_X3 wc_X3_get (by decide +kernel) rfl hP hD hS hA 11 1 rfl rfl rfl hl.1 dX2_nextDue_65 rfl (Nat.le_of_ble_eq_true rfl) ⟨Nat.le_of_ble_eq_true rfl, Nat.le_of_ble_eq_true rfl⟩ ⟨Nat.zero_le _, Nat.zero_le _⟩ (fun H locs hP hD hS => ?_)
      refine x_aload_n C dX2_nextDue_68 rfl hl 0 rfl ?_
      refine x_get C inX2 hP 0 rfl rfl 12 (by decide) wf_X2_72 rfl dX2_nextDue_69 ?_
      refine x_icmp_gt (tgt := 85) C h dX2_nextDue_72 (by decide) (fun h => ?_) (fun h => ?_)
      · exact B85 K2 ih2 _ h _ _ _ hP hD hS hl
      · refine x_aload_n C dX2_nextDue_75 rfl hl 0 rfl ?_
        refine x_get C inX2 hP 0 rfl rfl 5 (by decide) wf_X2_32 rfl dX2_nextDue_76 ?_
        refine x_iload_n C dX2_nextDue_79 rfl hl 3 rfl ?_
        refine x_iconst (v := (0 : Int32)) C dX2_nextDue_80 (by decide) ?_
        refine x_callV (As := [.int _, .int _]) (n := 2) C (kS_get l D cI cS aS _ 5 (by decide) _ _) (fun hh => nomatch hh) wm_X2_91 wi_X3_get we_X3_get wz_X3 wc_X3_get (by decide +kernel) rfl hP hD hS hA 11 1 rfl rfl rfl hl.1 dX2_nextDue_81 rfl (Nat.le_of_ble_eq_true rfl) ⟨Nat.le_of_ble_eq_true rfl, Nat.le_of_ble_eq_true rfl⟩ ⟨Nat.zero_le _, Nat.zero_le _⟩ (fun H locs hP hD hS => ?_)
        exact RETh dX2_nextDue_84 h hP hD hS
  have B31 : ∀ (K2 : Int32 → Option (Int32)) (ih2 : ∀ x, K2 x = some q → (fun (x3 : Int32) => ∀ (H : Heap) (locs : List Loc) (ls : Array Slot), va_P D vwCl (wS cI aS S) H → va_D A (wS cI aS S) → va_S A s.heap H locs → lv_has ls 5 [(0, .ref (aS 0)), (1, .int p1), (2, .int p2), (3, .int x3)] → W p l e (rmL 2) s m args below meth c H locs 0 0 Q (F0 m 2 ls [])) x) (x3 : Int32) (s0 : Int32), bfX2_nextDue_31 p1 p2 S K2 x3 s0 = some q → ∀ (H : Heap) (locs : List Loc) (ls : Array Slot), va_P D vwCl (wS cI aS S) H → va_D A (wS cI aS S) → va_S A s.heap H locs → lv_has ls 5 [(0, .ref (aS 0)), (1, .int p1), (2, .int p2), (3, .int x3)] → W p l e (rmL 2) s m args below meth c H locs 0 0 Q (F0 m 31 ls [.int s0]) := by
    intro K2 ih2 x3 s0 h H locs ls hP hD hS hl
    refine x_istore (lv' := [(4, .int s0), (0, .ref (aS 0)), (1, .int p1), (2, .int p2), (3, .int x3)]) C dX2_nextDue_31 hl (by decide) rfl (fun ls hl => ?_)
    refine x_iload C dX2_nextDue_33 hl 0 rfl ?_
    refine x_if_eq (tgt := 85) C h dX2_nextDue_35 (by decide) (fun h => ?_) (fun h => ?_)
    · exact B85 K2 ih2 _ h _ _ _ hP hD hS (lv_sub hl [1, 2, 3, 4] rfl)
    · refine x_aload_n C dX2_nextDue_38 rfl hl 1 rfl ?_
      refine x_get C inX2 hP 0 rfl rfl 5 (by decide) wf_X2_32 rfl dX2_nextDue_39 ?_
      refine x_iload_n C dX2_nextDue_42 rfl hl 4 rfl ?_
      refine x_iconst (v := (4 : Int32)) C dX2_nextDue_43 (by decide) ?_
      refine x_callV (As := [.int _, .int _]) (n := 2) C (kS_get l D cI cS aS _ 5 (by decide) _ _) (fun hh => nomatch hh) wm_X2_91 wi_X3_get we_X3_get wz_X3 wc_X3_get (by decide +kernel) rfl hP hD hS hA 11 1 rfl rfl rfl hl.1 dX2_nextDue_44 rfl (Nat.le_of_ble_eq_true rfl) ⟨Nat.le_of_ble_eq_true rfl, Nat.le_of_ble_eq_true rfl⟩ ⟨Nat.zero_le _, Nat.zero_le _⟩ (fun H locs hP hD hS => ?_)
      refine x_iload_n C dX2_nextDue_47 rfl hl 3 rfl ?_
      refine x_if_eq (tgt := 55) C h dX2_nextDue_48 (by decide) (fun h => ?_) (fun h => ?_)
      · refine x_iconst (v := (0 : Int32)) C dX2_nextDue_55 (by decide) ?_
        exact B56 K2 ih2 _ _ _ h _ _ _ hP hD hS (lv_sub hl [1, 2, 3, 4] rfl)
      · refine x_iconst (v := (1 : Int32)) C dX2_nextDue_51 (by decide) ?_
        refine x_goto (tgt := 56) C dX2_nextDue_52 (by decide) ?_
        exact B56 K2 ih2 _ _ _ h _ _ _ hP hD hS (lv_sub hl [1, 2, 3, 4] rfl)
  have B2 : ∀ (n : Nat) (x : Int32), iter (bfX2_nextDue_2 p1 p2 S) n x = some q → (fun (x3 : Int32) => ∀ (H : Heap) (locs : List Loc) (ls : Array Slot), va_P D vwCl (wS cI aS S) H → va_D A (wS cI aS S) → va_S A s.heap H locs → lv_has ls 5 [(0, .ref (aS 0)), (1, .int p1), (2, .int p2), (3, .int x3)] → W p l e (rmL 2) s m args below meth c H locs 0 0 Q (F0 m 2 ls [])) x := by
    refine iter_ind (fun x : Int32 => (fun (x3 : Int32) => ∀ (H : Heap) (locs : List Loc) (ls : Array Slot), va_P D vwCl (wS cI aS S) H → va_D A (wS cI aS S) → va_S A s.heap H locs → lv_has ls 5 [(0, .ref (aS 0)), (1, .int p1), (2, .int p2), (3, .int x3)] → W p l e (rmL 2) s m args below meth c H locs 0 0 Q (F0 m 2 ls [])) x) ?_
    intro K2 ih2 x h
    obtain ⟨x3, rfl⟩ : ∃ y, y = x := ⟨_, rfl⟩
    intro H locs ls hP hD hS hl
    refine x_iload_n C dX2_nextDue_2 rfl hl 3 rfl ?_
    refine x_aload_n C dX2_nextDue_3 rfl hl 0 rfl ?_
    refine x_get C inX2 hP 0 rfl rfl 5 (by decide) wf_X2_32 rfl dX2_nextDue_4 ?_
    refine x_callV (As := []) (n := 0) C (kS_size l D cI cS aS _ 5 (by decide)) (fun hh => nomatch hh) wm_X2_98 wi_X3_size we_X3_size wz_X3 wc_X3_size (by decide +kernel) rfl hP hD hS hA 11 1 rfl rfl rfl hl.1 dX2_nextDue_7 rfl (Nat.le_of_ble_eq_true rfl) ⟨Nat.le_of_ble_eq_true rfl, Nat.le_of_ble_eq_true rfl⟩ ⟨Nat.zero_le _, Nat.zero_le _⟩ (fun H locs hP hD hS => ?_)
    refine x_icmp_ge (tgt := 91) C h dX2_nextDue_10 (by decide) (fun h => ?_) (fun h => ?_)
    · refine x_bipush (v := (-9 : Int32)) C dX2_nextDue_91 (by decide) ?_
      exact RETh dX2_nextDue_93 h hP hD hS
    · refine x_aload_n C dX2_nextDue_13 rfl hl 0 rfl ?_
      refine x_get C inX2 hP 0 rfl rfl 5 (by decide) wf_X2_32 rfl dX2_nextDue_14 ?_
      refine x_iload_n C dX2_nextDue_17 rfl hl 3 rfl ?_
      refine x_iconst (v := (0 : Int32)) C dX2_nextDue_18 (by decide) ?_
      refine x_callV (As := [.int _, .int _]) (n := 2) C (kS_get l D cI cS aS _ 5 (by decide) _ _) (fun hh => nomatch hh) wm_X2_91 wi_X3_get we_X3_get wz_X3 wc_X3_get (by decide +kernel) rfl hP hD hS hA 11 1 rfl rfl rfl hl.1 dX2_nextDue_19 rfl (Nat.le_of_ble_eq_true rfl) ⟨Nat.le_of_ble_eq_true rfl, Nat.le_of_ble_eq_true rfl⟩ ⟨Nat.zero_le _, Nat.zero_le _⟩ (fun H locs hP hD hS => ?_)
      refine x_iload_n C dX2_nextDue_22 rfl hl 1 rfl ?_
      refine x_icmp_le (tgt := 30) C h dX2_nextDue_23 (by decide) (fun h => ?_) (fun h => ?_)
      · refine x_iconst (v := (0 : Int32)) C dX2_nextDue_30 (by decide) ?_
        exact B31 K2 ih2 _ _ h _ _ _ hP hD hS hl
      · refine x_iconst (v := (1 : Int32)) C dX2_nextDue_26 (by decide) ?_
        refine x_goto (tgt := 31) C dX2_nextDue_27 (by decide) ?_
        exact B31 K2 ih2 _ _ h _ _ _ hP hD hS hl
  refine x_iconst (v := (0 : Int32)) C dX2_nextDue_0 (by decide) ?_
  refine x_istore_n (lv' := [(3, .int (0 : Int32)), (0, .ref (aS 0)), (1, .int p1), (2, .int p2)]) C dX2_nextDue_1 rfl hl (by decide) rfl (fun ls hl => ?_)
  exact B2 FU _ h _ _ _ hP hD hS (lv_sub hl [1, 2, 3, 0] rfl)
theorem dX0_abandonExpired_0 : decode cX0_abandonExpired 0 = .ok (.bipush (-9), 2) := by decide +kernel
theorem dX0_abandonExpired_2 : decode cX0_abandonExpired 2 = .ok (.istore_n 1, 1) := by decide +kernel
theorem dX0_abandonExpired_3 : decode cX0_abandonExpired 3 = .ok (.iconst 0, 1) := by decide +kernel
theorem dX0_abandonExpired_4 : decode cX0_abandonExpired 4 = .ok (.istore_n 2, 1) := by decide +kernel
theorem dX0_abandonExpired_5 : decode cX0_abandonExpired 5 = .ok (.iload_n 2, 1) := by decide +kernel
theorem dX0_abandonExpired_6 : decode cX0_abandonExpired 6 = .ok (.bipush 16, 2) := by decide +kernel
theorem dX0_abandonExpired_8 : decode cX0_abandonExpired 8 = .ok (.if_icmp .ge 34, 3) := by decide +kernel
theorem dX0_abandonExpired_11 : decode cX0_abandonExpired 11 = .ok (.aload_n 0, 1) := by decide +kernel
theorem dX0_abandonExpired_12 : decode cX0_abandonExpired 12 = .ok (.iload_n 1, 1) := by decide +kernel
theorem dX0_abandonExpired_13 : decode cX0_abandonExpired 13 = .ok (.iconst 0, 1) := by decide +kernel
theorem dX0_abandonExpired_14 : decode cX0_abandonExpired 14 = .ok (.invokevirtual 25, 3) := by decide +kernel
theorem dX0_abandonExpired_17 : decode cX0_abandonExpired 17 = .ok (.istore_n 1, 1) := by decide +kernel
theorem dX0_abandonExpired_18 : decode cX0_abandonExpired 18 = .ok (.iload_n 1, 1) := by decide +kernel
theorem dX0_abandonExpired_19 : decode cX0_abandonExpired 19 = .ok (.bipush (-9), 2) := by decide +kernel
theorem dX0_abandonExpired_21 : decode cX0_abandonExpired 21 = .ok (.if_icmp .ne 4, 3) := by decide +kernel
theorem dX0_abandonExpired_24 : decode cX0_abandonExpired 24 = .ok (.return_, 1) := by decide +kernel
theorem dX0_abandonExpired_25 : decode cX0_abandonExpired 25 = .ok (.aload_n 0, 1) := by decide +kernel
theorem dX0_abandonExpired_26 : decode cX0_abandonExpired 26 = .ok (.iload_n 1, 1) := by decide +kernel
theorem dX0_abandonExpired_27 : decode cX0_abandonExpired 27 = .ok (.invokestatic 31, 3) := by decide +kernel
theorem dX0_abandonExpired_30 : decode cX0_abandonExpired 30 = .ok (.aload_n 0, 1) := by decide +kernel
theorem dX0_abandonExpired_31 : decode cX0_abandonExpired 31 = .ok (.iload_n 1, 1) := by decide +kernel
theorem dX0_abandonExpired_32 : decode cX0_abandonExpired 32 = .ok (.iconst 5, 1) := by decide +kernel
theorem dX0_abandonExpired_33 : decode cX0_abandonExpired 33 = .ok (.invokestatic 21, 3) := by decide +kernel
theorem dX0_abandonExpired_36 : decode cX0_abandonExpired 36 = .ok (.iinc 2 1, 3) := by decide +kernel
theorem dX0_abandonExpired_39 : decode cX0_abandonExpired 39 = .ok (.goto (-34), 3) := by decide +kernel
theorem dX0_abandonExpired_42 : decode cX0_abandonExpired 42 = .ok (.return_, 1) := by decide +kernel
def bfX0_abandonExpired_5  (K5 : Int32 × Int32 × (StS) → Option (StS)) (x : Int32 × Int32 × (StS)) : Option (StS) :=
  match x with
  | (x1, x2, S) => (if (16 : Int32) ≤ x2 then some S else ob (fX2_nextDue x1 (0 : Int32) S) fun u4 => (if u4 = (-9 : Int32) then some S else ob (fX1_abandon u4 S) fun u5 => ob (fX0_fail u4 (5 : Int32) u5) fun u6 => K5 (u4, (x2 + (1 : Int32)), u6)))
def fX0_abandonExpired  (S : StS) : Option (StS) :=
  iter (bfX0_abandonExpired_5) FU ((-9 : Int32), (0 : Int32), S)
set_option maxHeartbeats 4000000 in
set_option maxRecDepth 100000 in
theorem kX0_abandonExpired (l : Launch) (D : va_G) (cI cS : ClassId) (aS : Nat → Nat)  (S : StS) {q : StS} (h : fX0_abandonExpired  S = some q) : Mc l D (tyL cI cS) false yX0_abandonExpired cX0_abandonExpired 3 none 4 [.ref (aS 0)] (wS cI aS S) none (wS cI aS q) := by
  refine Mc_of RX0 (by decide +kernel) rfl wc_X0_abandonExpired (Nat.le_of_ble_eq_true rfl) ?_
  intro p e s m args below meth c A Q ls C hA hz hP hD hS hl RET
  have RETh : ∀ {pc : Nat} {ls : Array Slot} {H : Heap} {locs : List Loc} {S1 : StS}, decode cX0_abandonExpired pc = .ok (.return_, 1) → some S1 = some q → va_P D vwCl (wS cI aS S1) H → va_D A (wS cI aS S1) → va_S A s.heap H locs → W p l e (rmL 4) s m args below meth c H locs 0 0 Q (F0 m pc ls []) := by
    intro pc ls H locs S1 hd h hP hD hS; cases h; exact RET (x_vret C hd) hP hD hS
  have B5 : ∀ (n : Nat) (x : Int32 × Int32 × (StS)), iter (bfX0_abandonExpired_5) n x = some q → (match x with | (x1, x2, S) => ∀ (H : Heap) (locs : List Loc) (ls : Array Slot), va_P D vwCl (wS cI aS S) H → va_D A (wS cI aS S) → va_S A s.heap H locs → lv_has ls 3 [(0, .ref (aS 0)), (1, .int x1), (2, .int x2)] → W p l e (rmL 4) s m args below meth c H locs 0 0 Q (F0 m 5 ls [])) := by
    refine iter_ind (fun x : Int32 × Int32 × (StS) => (match x with | (x1, x2, S) => ∀ (H : Heap) (locs : List Loc) (ls : Array Slot), va_P D vwCl (wS cI aS S) H → va_D A (wS cI aS S) → va_S A s.heap H locs → lv_has ls 3 [(0, .ref (aS 0)), (1, .int x1), (2, .int x2)] → W p l e (rmL 4) s m args below meth c H locs 0 0 Q (F0 m 5 ls []))) ?_
    intro K5 ih5 x h
    obtain ⟨x1, x2, S⟩ := x
    intro H locs ls hP hD hS hl
    refine x_iload_n C dX0_abandonExpired_5 rfl hl 2 rfl ?_
    refine x_bipush (v := (16 : Int32)) C dX0_abandonExpired_6 (by decide) ?_
    refine x_icmp_ge (tgt := 42) C h dX0_abandonExpired_8 (by decide) (fun h => ?_) (fun h => ?_)
    · exact RETh dX0_abandonExpired_42 h hP hD hS
    · refine x_aload_n C dX0_abandonExpired_11 rfl hl 0 rfl ?_
      refine x_iload_n C dX0_abandonExpired_12 rfl hl 1 rfl ?_
      refine x_iconst (v := (0 : Int32)) C dX0_abandonExpired_13 (by decide) ?_
      obtain ⟨u4, hu4, h⟩ := ob_some h
      refine x_callV (As := [.int _, .int _]) (n := 2) C (kX2_nextDue l D cI cS aS _ _ _ hu4) (fun hh => nomatch hh) wm_X0_25 wi_X2_nextDue we_X2_nextDue wz_X2 wc_X2_nextDue (by decide +kernel) rfl hP hD hS hA 0 0 rfl rfl rfl hl.1 dX0_abandonExpired_14 rfl (Nat.le_of_ble_eq_true rfl) ⟨Nat.le_of_ble_eq_true rfl, Nat.le_of_ble_eq_true rfl⟩ ⟨Nat.zero_le _, Nat.zero_le _⟩ (fun H locs hP hD hS => ?_)
      refine x_istore_n (lv' := [(1, .int u4), (0, .ref (aS 0)), (2, .int x2)]) C dX0_abandonExpired_17 rfl hl (by decide) rfl (fun ls hl => ?_)
      refine x_iload_n C dX0_abandonExpired_18 rfl hl 0 rfl ?_
      refine x_bipush (v := (-9 : Int32)) C dX0_abandonExpired_19 (by decide) ?_
      refine x_icmp_ne (tgt := 25) C h dX0_abandonExpired_21 (by decide) (fun h => ?_) (fun h => ?_)
      · refine x_aload_n C dX0_abandonExpired_25 rfl hl 1 rfl ?_
        refine x_iload_n C dX0_abandonExpired_26 rfl hl 0 rfl ?_
        obtain ⟨u5, hu5, h⟩ := ob_some h
        refine x_callS (As := [.ref _, .int _]) (n := 2) C (kX1_abandon l D cI cS aS _ _ hu5) (fun hh => nomatch hh) wm_X0_31 wt_X1_abandon wz_X1 wc_X1_abandon (by decide +kernel) rfl hP hD hS hA hl.1 dX0_abandonExpired_27 rfl (Nat.le_of_ble_eq_true rfl) ⟨Nat.le_of_ble_eq_true rfl, Nat.le_of_ble_eq_true rfl⟩ ⟨Nat.zero_le _, Nat.zero_le _⟩ (fun H locs hP hD hS => ?_)
        refine x_aload_n C dX0_abandonExpired_30 rfl hl 1 rfl ?_
        refine x_iload_n C dX0_abandonExpired_31 rfl hl 0 rfl ?_
        refine x_iconst (v := (5 : Int32)) C dX0_abandonExpired_32 (by decide) ?_
        obtain ⟨u6, hu6, h⟩ := ob_some h
        refine x_callS (As := [.ref _, .int _, .int _]) (n := 3) C (kX0_fail l D cI cS aS _ _ _ hu6) (fun hh => nomatch hh) wm_X0_21 wt_X0_fail wz_X0 wc_X0_fail (by decide +kernel) rfl hP hD hS hA hl.1 dX0_abandonExpired_33 rfl (Nat.le_of_ble_eq_true rfl) ⟨Nat.le_of_ble_eq_true rfl, Nat.le_of_ble_eq_true rfl⟩ ⟨Nat.zero_le _, Nat.zero_le _⟩ (fun H locs hP hD hS => ?_)
        refine x_iinc (v := (x2 + (1 : Int32))) (lv' := [(2, .int (x2 + (1 : Int32))), (1, .int u4), (0, .ref (aS 0))]) C dX0_abandonExpired_36 hl (k := 2) rfl rfl (by decide) rfl (fun ls hl => ?_)
        refine x_goto (tgt := 5) C dX0_abandonExpired_39 (by decide) ?_
        exact ih5 _ h _ _ _ hP hD hS (lv_sub hl [2, 1, 0] rfl)
      · exact RETh dX0_abandonExpired_24 h hP hD hS
  refine x_bipush (v := (-9 : Int32)) C dX0_abandonExpired_0 (by decide) ?_
  refine x_istore_n (lv' := [(1, .int (-9 : Int32)), (0, .ref (aS 0))]) C dX0_abandonExpired_2 rfl hl (by decide) rfl (fun ls hl => ?_)
  refine x_iconst (v := (0 : Int32)) C dX0_abandonExpired_3 (by decide) ?_
  refine x_istore_n (lv' := [(2, .int (0 : Int32)), (1, .int (-9 : Int32)), (0, .ref (aS 0))]) C dX0_abandonExpired_4 rfl hl (by decide) rfl (fun ls hl => ?_)
  exact B5 FU _ h _ _ _ hP hD hS (lv_sub hl [2, 1, 0] rfl)
theorem dX0_births_0 : decode cX0_births 0 = .ok (.aload_n 0, 1) := by decide +kernel
theorem dX0_births_1 : decode cX0_births 1 = .ok (.getfield 37, 3) := by decide +kernel
theorem dX0_births_4 : decode cX0_births 4 = .ok (.iload_n 1, 1) := by decide +kernel
theorem dX0_births_5 : decode cX0_births 5 = .ok (.iconst 0, 1) := by decide +kernel
theorem dX0_births_6 : decode cX0_births 6 = .ok (.invokevirtual 41, 3) := by decide +kernel
theorem dX0_births_9 : decode cX0_births 9 = .ok (.istore_n 2, 1) := by decide +kernel
theorem dX0_births_10 : decode cX0_births 10 = .ok (.aload_n 0, 1) := by decide +kernel
theorem dX0_births_11 : decode cX0_births 11 = .ok (.getfield 47, 3) := by decide +kernel
theorem dX0_births_14 : decode cX0_births 14 = .ok (.aload_n 0, 1) := by decide +kernel
theorem dX0_births_15 : decode cX0_births 15 = .ok (.getfield 37, 3) := by decide +kernel
theorem dX0_births_18 : decode cX0_births 18 = .ok (.iload_n 1, 1) := by decide +kernel
theorem dX0_births_19 : decode cX0_births 19 = .ok (.iconst 1, 1) := by decide +kernel
theorem dX0_births_20 : decode cX0_births 20 = .ok (.invokevirtual 41, 3) := by decide +kernel
theorem dX0_births_23 : decode cX0_births 23 = .ok (.isub, 1) := by decide +kernel
theorem dX0_births_24 : decode cX0_births 24 = .ok (.istore_n 3, 1) := by decide +kernel
theorem dX0_births_25 : decode cX0_births 25 = .ok (.iload_n 2, 1) := by decide +kernel
theorem dX0_births_26 : decode cX0_births 26 = .ok (.iconst 1, 1) := by decide +kernel
theorem dX0_births_27 : decode cX0_births 27 = .ok (.if_icmp .lt 13, 3) := by decide +kernel
theorem dX0_births_30 : decode cX0_births 30 = .ok (.iload_n 3, 1) := by decide +kernel
theorem dX0_births_31 : decode cX0_births 31 = .ok (.ifCond .lt 9, 3) := by decide +kernel
theorem dX0_births_34 : decode cX0_births 34 = .ok (.iload_n 3, 1) := by decide +kernel
theorem dX0_births_35 : decode cX0_births 35 = .ok (.iload_n 2, 1) := by decide +kernel
theorem dX0_births_36 : decode cX0_births 36 = .ok (.irem, 1) := by decide +kernel
theorem dX0_births_37 : decode cX0_births 37 = .ok (.ifCond .eq 5, 3) := by decide +kernel
theorem dX0_births_40 : decode cX0_births 40 = .ok (.iconst 0, 1) := by decide +kernel
theorem dX0_births_41 : decode cX0_births 41 = .ok (.ireturn, 1) := by decide +kernel
theorem dX0_births_42 : decode cX0_births 42 = .ok (.aload_n 0, 1) := by decide +kernel
theorem dX0_births_43 : decode cX0_births 43 = .ok (.getfield 47, 3) := by decide +kernel
theorem dX0_births_46 : decode cX0_births 46 = .ok (.aload_n 0, 1) := by decide +kernel
theorem dX0_births_47 : decode cX0_births 47 = .ok (.getfield 51, 3) := by decide +kernel
theorem dX0_births_50 : decode cX0_births 50 = .ok (.iload_n 1, 1) := by decide +kernel
theorem dX0_births_51 : decode cX0_births 51 = .ok (.iconst 1, 1) := by decide +kernel
theorem dX0_births_52 : decode cX0_births 52 = .ok (.invokevirtual 41, 3) := by decide +kernel
theorem dX0_births_55 : decode cX0_births 55 = .ok (.if_icmp .lt 23, 3) := by decide +kernel
theorem dX0_births_58 : decode cX0_births 58 = .ok (.aload_n 0, 1) := by decide +kernel
theorem dX0_births_59 : decode cX0_births 59 = .ok (.getfield 47, 3) := by decide +kernel
theorem dX0_births_62 : decode cX0_births 62 = .ok (.aload_n 0, 1) := by decide +kernel
theorem dX0_births_63 : decode cX0_births 63 = .ok (.getfield 51, 3) := by decide +kernel
theorem dX0_births_66 : decode cX0_births 66 = .ok (.iload_n 1, 1) := by decide +kernel
theorem dX0_births_67 : decode cX0_births 67 = .ok (.iconst 2, 1) := by decide +kernel
theorem dX0_births_68 : decode cX0_births 68 = .ok (.invokevirtual 41, 3) := by decide +kernel
theorem dX0_births_71 : decode cX0_births 71 = .ok (.if_icmp .ge 7, 3) := by decide +kernel
theorem dX0_births_74 : decode cX0_births 74 = .ok (.iconst 1, 1) := by decide +kernel
theorem dX0_births_75 : decode cX0_births 75 = .ok (.goto 4, 3) := by decide +kernel
theorem dX0_births_78 : decode cX0_births 78 = .ok (.iconst 0, 1) := by decide +kernel
theorem dX0_births_79 : decode cX0_births 79 = .ok (.istore 4, 2) := by decide +kernel
theorem dX0_births_81 : decode cX0_births 81 = .ok (.iload 4, 2) := by decide +kernel
theorem dX0_births_83 : decode cX0_births 83 = .ok (.ifCond .eq 15, 3) := by decide +kernel
theorem dX0_births_86 : decode cX0_births 86 = .ok (.aload_n 0, 1) := by decide +kernel
theorem dX0_births_87 : decode cX0_births 87 = .ok (.getfield 51, 3) := by decide +kernel
theorem dX0_births_90 : decode cX0_births 90 = .ok (.iload_n 1, 1) := by decide +kernel
theorem dX0_births_91 : decode cX0_births 91 = .ok (.iconst 0, 1) := by decide +kernel
theorem dX0_births_92 : decode cX0_births 92 = .ok (.invokevirtual 41, 3) := by decide +kernel
theorem dX0_births_95 : decode cX0_births 95 = .ok (.goto 4, 3) := by decide +kernel
theorem dX0_births_98 : decode cX0_births 98 = .ok (.iconst 1, 1) := by decide +kernel
theorem dX0_births_99 : decode cX0_births 99 = .ok (.ireturn, 1) := by decide +kernel
def bfX0_births_99 (p2 : Int32) (S : StS) (s0 : Int32) : Option (Int32) :=
  some s0
def bfX0_births_79 (p2 : Int32) (S : StS) (s0 : Int32) : Option (Int32) :=
  (if s0 = 0 then bfX0_births_99 p2 S  ((1 : Int32)) else bfX0_births_99 p2 S  ((sget 2 S p2 (0 : Int32))))
def bfX0_births_78 (p2 : Int32) (S : StS) : Option (Int32) :=
  bfX0_births_79 p2 S  ((0 : Int32))
def bfX0_births_40 (p2 : Int32) (S : StS) : Option (Int32) :=
  some (0 : Int32)
def fX0_births (p2 : Int32) (S : StS) : Option (Int32) :=
  nm ((sget 0 S p2 (0 : Int32))) fun v3 => nm (((S.2 12) - (sget 0 S p2 (1 : Int32)))) fun v4 => (if v3 < (1 : Int32) then bfX0_births_40 p2 S else (if v4 < 0 then bfX0_births_40 p2 S else (if v3 = 0 then none else (if (v4 - v4 / v3 * v3) = 0 then (if (S.2 12) < (sget 2 S p2 (1 : Int32)) then bfX0_births_78 p2 S else (if (sget 2 S p2 (2 : Int32)) ≤ (S.2 12) then bfX0_births_78 p2 S else bfX0_births_79 p2 S  ((1 : Int32)))) else bfX0_births_40 p2 S))))
set_option maxHeartbeats 4000000 in
set_option maxRecDepth 100000 in
theorem kX0_births (l : Launch) (D : va_G) (cI cS : ClassId) (aS : Nat → Nat) (p2 : Int32) (S : StS) {q : Int32} (h : fX0_births p2 S = some q) : Mc l D (tyL cI cS) false yX0_births cX0_births 5 (some .int) 2 [.ref (aS 0), .int p2] (wS cI aS S) (some (.int q)) (wS cI aS S) := by
  refine Mc_of RX0 (by decide +kernel) rfl wc_X0_births (Nat.le_of_ble_eq_true rfl) ?_
  intro p e s m args below meth c A Q ls C hA hz hP hD hS hl RET
  have RETh : ∀ {pc : Nat} {ls : Array Slot} {H : Heap} {locs : List Loc} {x : Int32} , decode cX0_births pc = .ok (.ireturn, 1) → some x = some q → va_P D vwCl (wS cI aS S) H → va_D A (wS cI aS S) → va_S A s.heap H locs → W p l e (rmL 2) s m args below meth c H locs 0 0 Q (F0 m pc ls [.int x]) := by
    intro pc ls H locs x hd h hP hD hS; cases h; exact RET (x_iret C hd) hP hD hS
  have B99 : ∀ (s0 : Int32), bfX0_births_99 p2 S s0 = some q → ∀ (H : Heap) (locs : List Loc) (ls : Array Slot), va_P D vwCl (wS cI aS S) H → va_D A (wS cI aS S) → va_S A s.heap H locs → lv_has ls 5 [] → W p l e (rmL 2) s m args below meth c H locs 0 0 Q (F0 m 99 ls [.int s0]) := by
    intro s0 h H locs ls hP hD hS hl
    exact RETh dX0_births_99 h hP hD hS
  have B79 : ∀ (s0 : Int32), bfX0_births_79 p2 S s0 = some q → ∀ (H : Heap) (locs : List Loc) (ls : Array Slot), va_P D vwCl (wS cI aS S) H → va_D A (wS cI aS S) → va_S A s.heap H locs → lv_has ls 5 [(0, .ref (aS 0)), (1, .int p2)] → W p l e (rmL 2) s m args below meth c H locs 0 0 Q (F0 m 79 ls [.int s0]) := by
    intro s0 h H locs ls hP hD hS hl
    refine x_istore (lv' := [(4, .int s0), (0, .ref (aS 0)), (1, .int p2)]) C dX0_births_79 hl (by decide) rfl (fun ls hl => ?_)
    refine x_iload C dX0_births_81 hl 0 rfl ?_
    refine x_if_eq (tgt := 98) C h dX0_births_83 (by decide) (fun h => ?_) (fun h => ?_)
    · refine x_iconst (v := (1 : Int32)) C dX0_births_98 (by decide) ?_
      exact B99 _ h _ _ _ hP hD hS (lv_sub hl [] rfl)
    · refine x_aload_n C dX0_births_86 rfl hl 1 rfl ?_
      refine x_get C inX2 hP 0 rfl rfl 2 (by decide) wf_X0_51 rfl dX0_births_87 ?_
      refine x_iload_n C dX0_births_90 rfl hl 2 rfl ?_
      refine x_iconst (v := (0 : Int32)) C dX0_births_91 (by decide) ?_
      refine x_callV (As := [.int _, .int _]) (n := 2) C (kS_get l D cI cS aS _ 2 (by decide) _ _) (fun hh => nomatch hh) wm_X0_41 wi_X3_get we_X3_get wz_X3 wc_X3_get (by decide +kernel) rfl hP hD hS hA 5 1 rfl rfl rfl hl.1 dX0_births_92 rfl (Nat.le_of_ble_eq_true rfl) ⟨Nat.le_of_ble_eq_true rfl, Nat.le_of_ble_eq_true rfl⟩ ⟨Nat.zero_le _, Nat.zero_le _⟩ (fun H locs hP hD hS => ?_)
      refine x_goto (tgt := 99) C dX0_births_95 (by decide) ?_
      exact B99 _ h _ _ _ hP hD hS (lv_sub hl [] rfl)
  have B78 : bfX0_births_78 p2 S = some q → ∀ (H : Heap) (locs : List Loc) (ls : Array Slot), va_P D vwCl (wS cI aS S) H → va_D A (wS cI aS S) → va_S A s.heap H locs → lv_has ls 5 [(0, .ref (aS 0)), (1, .int p2)] → W p l e (rmL 2) s m args below meth c H locs 0 0 Q (F0 m 78 ls []) := by
    intro  h H locs ls hP hD hS hl
    refine x_iconst (v := (0 : Int32)) C dX0_births_78 (by decide) ?_
    exact B79 _ h _ _ _ hP hD hS hl
  have B40 : bfX0_births_40 p2 S = some q → ∀ (H : Heap) (locs : List Loc) (ls : Array Slot), va_P D vwCl (wS cI aS S) H → va_D A (wS cI aS S) → va_S A s.heap H locs → lv_has ls 5 [] → W p l e (rmL 2) s m args below meth c H locs 0 0 Q (F0 m 40 ls []) := by
    intro  h H locs ls hP hD hS hl
    refine x_iconst (v := (0 : Int32)) C dX0_births_40 (by decide) ?_
    exact RETh dX0_births_41 h hP hD hS
  refine x_aload_n C dX0_births_0 rfl hl 0 rfl ?_
  refine x_get C inX2 hP 0 rfl rfl 0 (by decide) wf_X0_37 rfl dX0_births_1 ?_
  refine x_iload_n C dX0_births_4 rfl hl 1 rfl ?_
  refine x_iconst (v := (0 : Int32)) C dX0_births_5 (by decide) ?_
  refine x_callV (As := [.int _, .int _]) (n := 2) C (kS_get l D cI cS aS _ 0 (by decide) _ _) (fun hh => nomatch hh) wm_X0_41 wi_X3_get we_X3_get wz_X3 wc_X3_get (by decide +kernel) rfl hP hD hS hA 1 1 rfl rfl rfl hl.1 dX0_births_6 rfl (Nat.le_of_ble_eq_true rfl) ⟨Nat.le_of_ble_eq_true rfl, Nat.le_of_ble_eq_true rfl⟩ ⟨Nat.zero_le _, Nat.zero_le _⟩ (fun H locs hP hD hS => ?_)
  refine x_nmi h (fun v3 h => ?_)
  refine x_istore_n (lv' := [(2, .int v3), (0, .ref (aS 0)), (1, .int p2)]) C dX0_births_9 rfl hl (by decide) rfl (fun ls hl => ?_)
  refine x_aload_n C dX0_births_10 rfl hl 1 rfl ?_
  refine x_get C inX2 hP 0 rfl rfl 12 (by decide) wf_X0_47 rfl dX0_births_11 ?_
  refine x_aload_n C dX0_births_14 rfl hl 1 rfl ?_
  refine x_get C inX2 hP 0 rfl rfl 0 (by decide) wf_X0_37 rfl dX0_births_15 ?_
  refine x_iload_n C dX0_births_18 rfl hl 2 rfl ?_
  refine x_iconst (v := (1 : Int32)) C dX0_births_19 (by decide) ?_
  refine x_callV (As := [.int _, .int _]) (n := 2) C (kS_get l D cI cS aS _ 0 (by decide) _ _) (fun hh => nomatch hh) wm_X0_41 wi_X3_get we_X3_get wz_X3 wc_X3_get (by decide +kernel) rfl hP hD hS hA 1 1 rfl rfl rfl hl.1 dX0_births_20 rfl (Nat.le_of_ble_eq_true rfl) ⟨Nat.le_of_ble_eq_true rfl, Nat.le_of_ble_eq_true rfl⟩ ⟨Nat.zero_le _, Nat.zero_le _⟩ (fun H locs hP hD hS => ?_)
  refine x_isub C dX0_births_23 ?_
  refine x_nmi h (fun v4 h => ?_)
  refine x_istore_n (lv' := [(3, .int v4), (2, .int v3), (0, .ref (aS 0)), (1, .int p2)]) C dX0_births_24 rfl hl (by decide) rfl (fun ls hl => ?_)
  refine x_iload_n C dX0_births_25 rfl hl 1 rfl ?_
  refine x_iconst (v := (1 : Int32)) C dX0_births_26 (by decide) ?_
  refine x_icmp_lt (tgt := 40) C h dX0_births_27 (by decide) (fun h => ?_) (fun h => ?_)
  · exact B40  h _ _ _ hP hD hS (lv_sub hl [] rfl)
  · refine x_iload_n C dX0_births_30 rfl hl 0 rfl ?_
    refine x_if_lt (tgt := 40) C h dX0_births_31 (by decide) (fun h => ?_) (fun h => ?_)
    · exact B40  h _ _ _ hP hD hS (lv_sub hl [] rfl)
    · refine x_iload_n C dX0_births_34 rfl hl 0 rfl ?_
      refine x_iload_n C dX0_births_35 rfl hl 1 rfl ?_
      refine x_irem C h dX0_births_36 (fun h => ?_)
      refine x_if_eq (tgt := 42) C h dX0_births_37 (by decide) (fun h => ?_) (fun h => ?_)
      · refine x_aload_n C dX0_births_42 rfl hl 2 rfl ?_
        refine x_get C inX2 hP 0 rfl rfl 12 (by decide) wf_X0_47 rfl dX0_births_43 ?_
        refine x_aload_n C dX0_births_46 rfl hl 2 rfl ?_
        refine x_get C inX2 hP 0 rfl rfl 2 (by decide) wf_X0_51 rfl dX0_births_47 ?_
        refine x_iload_n C dX0_births_50 rfl hl 3 rfl ?_
        refine x_iconst (v := (1 : Int32)) C dX0_births_51 (by decide) ?_
        refine x_callV (As := [.int _, .int _]) (n := 2) C (kS_get l D cI cS aS _ 2 (by decide) _ _) (fun hh => nomatch hh) wm_X0_41 wi_X3_get we_X3_get wz_X3 wc_X3_get (by decide +kernel) rfl hP hD hS hA 5 1 rfl rfl rfl hl.1 dX0_births_52 rfl (Nat.le_of_ble_eq_true rfl) ⟨Nat.le_of_ble_eq_true rfl, Nat.le_of_ble_eq_true rfl⟩ ⟨Nat.zero_le _, Nat.zero_le _⟩ (fun H locs hP hD hS => ?_)
        refine x_icmp_lt (tgt := 78) C h dX0_births_55 (by decide) (fun h => ?_) (fun h => ?_)
        · exact B78  h _ _ _ hP hD hS (lv_sub hl [2, 3] rfl)
        · refine x_aload_n C dX0_births_58 rfl hl 2 rfl ?_
          refine x_get C inX2 hP 0 rfl rfl 12 (by decide) wf_X0_47 rfl dX0_births_59 ?_
          refine x_aload_n C dX0_births_62 rfl hl 2 rfl ?_
          refine x_get C inX2 hP 0 rfl rfl 2 (by decide) wf_X0_51 rfl dX0_births_63 ?_
          refine x_iload_n C dX0_births_66 rfl hl 3 rfl ?_
          refine x_iconst (v := (2 : Int32)) C dX0_births_67 (by decide) ?_
          refine x_callV (As := [.int _, .int _]) (n := 2) C (kS_get l D cI cS aS _ 2 (by decide) _ _) (fun hh => nomatch hh) wm_X0_41 wi_X3_get we_X3_get wz_X3 wc_X3_get (by decide +kernel) rfl hP hD hS hA 5 1 rfl rfl rfl hl.1 dX0_births_68 rfl (Nat.le_of_ble_eq_true rfl) ⟨Nat.le_of_ble_eq_true rfl, Nat.le_of_ble_eq_true rfl⟩ ⟨Nat.zero_le _, Nat.zero_le _⟩ (fun H locs hP hD hS => ?_)
          refine x_icmp_ge (tgt := 78) C h dX0_births_71 (by decide) (fun h => ?_) (fun h => ?_)
          · exact B78  h _ _ _ hP hD hS (lv_sub hl [2, 3] rfl)
          · refine x_iconst (v := (1 : Int32)) C dX0_births_74 (by decide) ?_
            refine x_goto (tgt := 79) C dX0_births_75 (by decide) ?_
            exact B79 _ h _ _ _ hP hD hS (lv_sub hl [2, 3] rfl)
      · exact B40  h _ _ _ hP hD hS (lv_sub hl [] rfl)
theorem dX0_create_0 : decode cX0_create 0 = .ok (.aload_n 0, 1) := by decide +kernel
theorem dX0_create_1 : decode cX0_create 1 = .ok (.getfield 54, 3) := by decide +kernel
theorem dX0_create_4 : decode cX0_create 4 = .ok (.iload_n 1, 1) := by decide +kernel
theorem dX0_create_5 : decode cX0_create 5 = .ok (.iconst 0, 1) := by decide +kernel
theorem dX0_create_6 : decode cX0_create 6 = .ok (.iconst 1, 1) := by decide +kernel
theorem dX0_create_7 : decode cX0_create 7 = .ok (.invokevirtual 57, 3) := by decide +kernel
theorem dX0_create_10 : decode cX0_create 10 = .ok (.aload_n 0, 1) := by decide +kernel
theorem dX0_create_11 : decode cX0_create 11 = .ok (.getfield 54, 3) := by decide +kernel
theorem dX0_create_14 : decode cX0_create 14 = .ok (.iload_n 1, 1) := by decide +kernel
theorem dX0_create_15 : decode cX0_create 15 = .ok (.bipush 7, 2) := by decide +kernel
theorem dX0_create_17 : decode cX0_create 17 = .ok (.invokevirtual 41, 3) := by decide +kernel
theorem dX0_create_20 : decode cX0_create 20 = .ok (.aload_n 0, 1) := by decide +kernel
theorem dX0_create_21 : decode cX0_create 21 = .ok (.getfield 37, 3) := by decide +kernel
theorem dX0_create_24 : decode cX0_create 24 = .ok (.iload_n 1, 1) := by decide +kernel
theorem dX0_create_25 : decode cX0_create 25 = .ok (.bipush 11, 2) := by decide +kernel
theorem dX0_create_27 : decode cX0_create 27 = .ok (.invokevirtual 41, 3) := by decide +kernel
theorem dX0_create_30 : decode cX0_create 30 = .ok (.iadd, 1) := by decide +kernel
theorem dX0_create_31 : decode cX0_create 31 = .ok (.istore_n 2, 1) := by decide +kernel
theorem dX0_create_32 : decode cX0_create 32 = .ok (.aload_n 0, 1) := by decide +kernel
theorem dX0_create_33 : decode cX0_create 33 = .ok (.getfield 54, 3) := by decide +kernel
theorem dX0_create_36 : decode cX0_create 36 = .ok (.iload_n 1, 1) := by decide +kernel
theorem dX0_create_37 : decode cX0_create 37 = .ok (.bipush 7, 2) := by decide +kernel
theorem dX0_create_39 : decode cX0_create 39 = .ok (.iload_n 2, 1) := by decide +kernel
theorem dX0_create_40 : decode cX0_create 40 = .ok (.bipush 10, 2) := by decide +kernel
theorem dX0_create_42 : decode cX0_create 42 = .ok (.aload_n 0, 1) := by decide +kernel
theorem dX0_create_43 : decode cX0_create 43 = .ok (.getfield 37, 3) := by decide +kernel
theorem dX0_create_46 : decode cX0_create 46 = .ok (.iload_n 1, 1) := by decide +kernel
theorem dX0_create_47 : decode cX0_create 47 = .ok (.bipush 10, 2) := by decide +kernel
theorem dX0_create_49 : decode cX0_create 49 = .ok (.invokevirtual 41, 3) := by decide +kernel
theorem dX0_create_52 : decode cX0_create 52 = .ok (.imul, 1) := by decide +kernel
theorem dX0_create_53 : decode cX0_create 53 = .ok (.invokestatic 61, 3) := by decide +kernel
theorem dX0_create_56 : decode cX0_create 56 = .ok (.invokevirtual 66, 3) := by decide +kernel
theorem dX0_create_59 : decode cX0_create 59 = .ok (.aload_n 0, 1) := by decide +kernel
theorem dX0_create_60 : decode cX0_create 60 = .ok (.getfield 69, 3) := by decide +kernel
theorem dX0_create_63 : decode cX0_create 63 = .ok (.invokevirtual 72, 3) := by decide +kernel
theorem dX0_create_66 : decode cX0_create 66 = .ok (.istore_n 3, 1) := by decide +kernel
theorem dX0_create_67 : decode cX0_create 67 = .ok (.iload_n 3, 1) := by decide +kernel
theorem dX0_create_68 : decode cX0_create 68 = .ok (.bipush (-9), 2) := by decide +kernel
theorem dX0_create_70 : decode cX0_create 70 = .ok (.if_icmp .ne 16, 3) := by decide +kernel
theorem dX0_create_73 : decode cX0_create 73 = .ok (.aload_n 0, 1) := by decide +kernel
theorem dX0_create_74 : decode cX0_create 74 = .ok (.getfield 54, 3) := by decide +kernel
theorem dX0_create_77 : decode cX0_create 77 = .ok (.iload_n 1, 1) := by decide +kernel
theorem dX0_create_78 : decode cX0_create 78 = .ok (.iconst 3, 1) := by decide +kernel
theorem dX0_create_79 : decode cX0_create 79 = .ok (.iconst 1, 1) := by decide +kernel
theorem dX0_create_80 : decode cX0_create 80 = .ok (.invokevirtual 57, 3) := by decide +kernel
theorem dX0_create_83 : decode cX0_create 83 = .ok (.bipush (-9), 2) := by decide +kernel
theorem dX0_create_85 : decode cX0_create 85 = .ok (.ireturn, 1) := by decide +kernel
theorem dX0_create_86 : decode cX0_create 86 = .ok (.aload_n 0, 1) := by decide +kernel
theorem dX0_create_87 : decode cX0_create 87 = .ok (.getfield 76, 3) := by decide +kernel
theorem dX0_create_90 : decode cX0_create 90 = .ok (.istore 4, 2) := by decide +kernel
theorem dX0_create_92 : decode cX0_create 92 = .ok (.aload_n 0, 1) := by decide +kernel
theorem dX0_create_93 : decode cX0_create 93 = .ok (.dup, 1) := by decide +kernel
theorem dX0_create_94 : decode cX0_create 94 = .ok (.getfield 76, 3) := by decide +kernel
theorem dX0_create_97 : decode cX0_create 97 = .ok (.iconst 1, 1) := by decide +kernel
theorem dX0_create_98 : decode cX0_create 98 = .ok (.iadd, 1) := by decide +kernel
theorem dX0_create_99 : decode cX0_create 99 = .ok (.putfield 76, 3) := by decide +kernel
theorem dX0_create_102 : decode cX0_create 102 = .ok (.aload_n 0, 1) := by decide +kernel
theorem dX0_create_103 : decode cX0_create 103 = .ok (.getfield 69, 3) := by decide +kernel
theorem dX0_create_106 : decode cX0_create 106 = .ok (.iload_n 3, 1) := by decide +kernel
theorem dX0_create_107 : decode cX0_create 107 = .ok (.iconst 0, 1) := by decide +kernel
theorem dX0_create_108 : decode cX0_create 108 = .ok (.iload 4, 2) := by decide +kernel
theorem dX0_create_110 : decode cX0_create 110 = .ok (.invokevirtual 66, 3) := by decide +kernel
theorem dX0_create_113 : decode cX0_create 113 = .ok (.aload_n 0, 1) := by decide +kernel
theorem dX0_create_114 : decode cX0_create 114 = .ok (.getfield 69, 3) := by decide +kernel
theorem dX0_create_117 : decode cX0_create 117 = .ok (.iload_n 3, 1) := by decide +kernel
theorem dX0_create_118 : decode cX0_create 118 = .ok (.iconst 1, 1) := by decide +kernel
theorem dX0_create_119 : decode cX0_create 119 = .ok (.iload_n 1, 1) := by decide +kernel
theorem dX0_create_120 : decode cX0_create 120 = .ok (.invokevirtual 66, 3) := by decide +kernel
theorem dX0_create_123 : decode cX0_create 123 = .ok (.aload_n 0, 1) := by decide +kernel
theorem dX0_create_124 : decode cX0_create 124 = .ok (.getfield 69, 3) := by decide +kernel
theorem dX0_create_127 : decode cX0_create 127 = .ok (.iload_n 3, 1) := by decide +kernel
theorem dX0_create_128 : decode cX0_create 128 = .ok (.iconst 2, 1) := by decide +kernel
theorem dX0_create_129 : decode cX0_create 129 = .ok (.aload_n 0, 1) := by decide +kernel
theorem dX0_create_130 : decode cX0_create 130 = .ok (.getfield 47, 3) := by decide +kernel
theorem dX0_create_133 : decode cX0_create 133 = .ok (.aload_n 0, 1) := by decide +kernel
theorem dX0_create_134 : decode cX0_create 134 = .ok (.getfield 37, 3) := by decide +kernel
theorem dX0_create_137 : decode cX0_create 137 = .ok (.iload_n 1, 1) := by decide +kernel
theorem dX0_create_138 : decode cX0_create 138 = .ok (.iconst 2, 1) := by decide +kernel
theorem dX0_create_139 : decode cX0_create 139 = .ok (.invokevirtual 41, 3) := by decide +kernel
theorem dX0_create_142 : decode cX0_create 142 = .ok (.iadd, 1) := by decide +kernel
theorem dX0_create_143 : decode cX0_create 143 = .ok (.invokevirtual 66, 3) := by decide +kernel
theorem dX0_create_146 : decode cX0_create 146 = .ok (.iload 4, 2) := by decide +kernel
theorem dX0_create_148 : decode cX0_create 148 = .ok (.ireturn, 1) := by decide +kernel
def fX0_create (p2 : Int32) (S : StS) : Option (Int32 × (StS)) :=
  nm (sadd 1 S p2 (0 : Int32) (1 : Int32)) fun S11 => nm (((sget 1 S11 p2 (7 : Int32)) + (sget 0 S11 p2 (11 : Int32)))) fun v12 => nm (sput 1 S11 p2 (7 : Int32) ((if ((10 : Int32) * (sget 0 S11 p2 (10 : Int32))) < v12 then ((10 : Int32) * (sget 0 S11 p2 (10 : Int32))) else v12))) fun S13 => nm (sappend 5 S13).2 fun S14 => nm ((sappend 5 S13).1) fun v15 => (if v15 = (-9 : Int32) then nm (sadd 1 S14 p2 (3 : Int32) (1 : Int32)) fun S20 => some ((-9 : Int32), S20) else nm (S14.1, upd S14.2 14 ((S14.2 14) + (1 : Int32))) fun S16 => nm (sput 5 S16 v15 (0 : Int32) (S14.2 14)) fun S17 => nm (sput 5 S17 v15 (1 : Int32) p2) fun S18 => nm (sput 5 S18 v15 (2 : Int32) (((S18.2 12) + (sget 0 S18 p2 (2 : Int32))))) fun S19 => some ((S14.2 14), S19))
set_option maxHeartbeats 4000000 in
set_option maxRecDepth 100000 in
theorem kX0_create (l : Launch) (D : va_G) (cI cS : ClassId) (aS : Nat → Nat) (p2 : Int32) (S : StS) {q : Int32 × (StS)} (h : fX0_create p2 S = some q) : Mc l D (tyL cI cS) false yX0_create cX0_create 5 (some .int) 4 [.ref (aS 0), .int p2] (wS cI aS S) (some (.int q.1)) (wS cI aS q.2) := by
  refine Mc_of RX0 (by decide +kernel) rfl wc_X0_create (Nat.le_of_ble_eq_true rfl) ?_
  intro p e s m args below meth c A Q ls C hA hz hP hD hS hl RET
  have RETh : ∀ {pc : Nat} {ls : Array Slot} {H : Heap} {locs : List Loc} {x : Int32} {S1 : StS}, decode cX0_create pc = .ok (.ireturn, 1) → some (x, S1) = some q → va_P D vwCl (wS cI aS S1) H → va_D A (wS cI aS S1) → va_S A s.heap H locs → W p l e (rmL 4) s m args below meth c H locs 0 0 Q (F0 m pc ls [.int x]) := by
    intro pc ls H locs x S1 hd h hP hD hS; cases h; exact RET (x_iret C hd) hP hD hS
  refine x_aload_n C dX0_create_0 rfl hl 0 rfl ?_
  refine x_get C inX2 hP 0 rfl rfl 1 (by decide) wf_X0_54 rfl dX0_create_1 ?_
  refine x_iload_n C dX0_create_4 rfl hl 1 rfl ?_
  refine x_iconst (v := (0 : Int32)) C dX0_create_5 (by decide) ?_
  refine x_iconst (v := (1 : Int32)) C dX0_create_6 (by decide) ?_
  refine x_callV (As := [.int _, .int _, .int _]) (n := 3) C (kS_add l D cI cS aS _ 1 (by decide) _ _ _) (fun hh => nomatch hh) wm_X0_57 wi_X3_add we_X3_add wz_X3 wc_X3_add (by decide +kernel) rfl hP hD hS hA 3 1 rfl rfl rfl hl.1 dX0_create_7 rfl (Nat.le_of_ble_eq_true rfl) ⟨Nat.le_of_ble_eq_true rfl, Nat.le_of_ble_eq_true rfl⟩ ⟨Nat.zero_le _, Nat.zero_le _⟩ (fun H locs hP hD hS => ?_)
  refine x_nmS (wS cI aS) h hP hD (fun S11 h hP hD => ?_)
  refine x_aload_n C dX0_create_10 rfl hl 0 rfl ?_
  refine x_get C inX2 hP 0 rfl rfl 1 (by decide) wf_X0_54 rfl dX0_create_11 ?_
  refine x_iload_n C dX0_create_14 rfl hl 1 rfl ?_
  refine x_bipush (v := (7 : Int32)) C dX0_create_15 (by decide) ?_
  refine x_callV (As := [.int _, .int _]) (n := 2) C (kS_get l D cI cS aS _ 1 (by decide) _ _) (fun hh => nomatch hh) wm_X0_41 wi_X3_get we_X3_get wz_X3 wc_X3_get (by decide +kernel) rfl hP hD hS hA 3 1 rfl rfl rfl hl.1 dX0_create_17 rfl (Nat.le_of_ble_eq_true rfl) ⟨Nat.le_of_ble_eq_true rfl, Nat.le_of_ble_eq_true rfl⟩ ⟨Nat.zero_le _, Nat.zero_le _⟩ (fun H locs hP hD hS => ?_)
  refine x_aload_n C dX0_create_20 rfl hl 0 rfl ?_
  refine x_get C inX2 hP 0 rfl rfl 0 (by decide) wf_X0_37 rfl dX0_create_21 ?_
  refine x_iload_n C dX0_create_24 rfl hl 1 rfl ?_
  refine x_bipush (v := (11 : Int32)) C dX0_create_25 (by decide) ?_
  refine x_callV (As := [.int _, .int _]) (n := 2) C (kS_get l D cI cS aS _ 0 (by decide) _ _) (fun hh => nomatch hh) wm_X0_41 wi_X3_get we_X3_get wz_X3 wc_X3_get (by decide +kernel) rfl hP hD hS hA 1 1 rfl rfl rfl hl.1 dX0_create_27 rfl (Nat.le_of_ble_eq_true rfl) ⟨Nat.le_of_ble_eq_true rfl, Nat.le_of_ble_eq_true rfl⟩ ⟨Nat.zero_le _, Nat.zero_le _⟩ (fun H locs hP hD hS => ?_)
  refine x_iadd C dX0_create_30 ?_
  refine x_nmi h (fun v12 h => ?_)
  refine x_istore_n (lv' := [(2, .int v12), (0, .ref (aS 0)), (1, .int p2)]) C dX0_create_31 rfl hl (by decide) rfl (fun ls hl => ?_)
  refine x_aload_n C dX0_create_32 rfl hl 1 rfl ?_
  refine x_get C inX2 hP 0 rfl rfl 1 (by decide) wf_X0_54 rfl dX0_create_33 ?_
  refine x_iload_n C dX0_create_36 rfl hl 2 rfl ?_
  refine x_bipush (v := (7 : Int32)) C dX0_create_37 (by decide) ?_
  refine x_iload_n C dX0_create_39 rfl hl 0 rfl ?_
  refine x_bipush (v := (10 : Int32)) C dX0_create_40 (by decide) ?_
  refine x_aload_n C dX0_create_42 rfl hl 1 rfl ?_
  refine x_get C inX2 hP 0 rfl rfl 0 (by decide) wf_X0_37 rfl dX0_create_43 ?_
  refine x_iload_n C dX0_create_46 rfl hl 2 rfl ?_
  refine x_bipush (v := (10 : Int32)) C dX0_create_47 (by decide) ?_
  refine x_callV (As := [.int _, .int _]) (n := 2) C (kS_get l D cI cS aS _ 0 (by decide) _ _) (fun hh => nomatch hh) wm_X0_41 wi_X3_get we_X3_get wz_X3 wc_X3_get (by decide +kernel) rfl hP hD hS hA 1 1 rfl rfl rfl hl.1 dX0_create_49 rfl (Nat.le_of_ble_eq_true rfl) ⟨Nat.le_of_ble_eq_true rfl, Nat.le_of_ble_eq_true rfl⟩ ⟨Nat.zero_le _, Nat.zero_le _⟩ (fun H locs hP hD hS => ?_)
  refine x_imul C dX0_create_52 ?_
  refine x_min C hl.1 wm_X0_61 wt_J9_min_7cf53 wz_J9 wc_J9_min_7cf53 (by decide) (Nat.le_of_ble_eq_true rfl) ⟨Nat.zero_le _, Nat.zero_le _⟩ dX0_create_53 ?_
  refine x_callV (As := [.int _, .int _, .int _]) (n := 3) C (kS_put l D cI cS aS _ 1 (by decide) _ _ _) (fun hh => nomatch hh) wm_X0_66 wi_X3_put we_X3_put wz_X3 wc_X3_put (by decide +kernel) rfl hP hD hS hA 3 1 rfl rfl rfl hl.1 dX0_create_56 rfl (Nat.le_of_ble_eq_true rfl) ⟨Nat.le_of_ble_eq_true rfl, Nat.le_of_ble_eq_true rfl⟩ ⟨Nat.zero_le _, Nat.zero_le _⟩ (fun H locs hP hD hS => ?_)
  refine x_nmS (wS cI aS) h hP hD (fun S13 h hP hD => ?_)
  refine x_aload_n C dX0_create_59 rfl hl 1 rfl ?_
  refine x_get C inX2 hP 0 rfl rfl 5 (by decide) wf_X0_69 rfl dX0_create_60 ?_
  refine x_callV (As := []) (n := 0) C (kS_append l D cI cS aS _ 5 (by decide)) (fun hh => nomatch hh) wm_X0_72 wi_X3_append we_X3_append wz_X3 wc_X3_append (by decide +kernel) rfl hP hD hS hA 11 1 rfl rfl rfl hl.1 dX0_create_63 rfl (Nat.le_of_ble_eq_true rfl) ⟨Nat.le_of_ble_eq_true rfl, Nat.le_of_ble_eq_true rfl⟩ ⟨Nat.zero_le _, Nat.zero_le _⟩ (fun H locs hP hD hS => ?_)
  refine x_nmS (wS cI aS) h hP hD (fun S14 h hP hD => ?_)
  refine x_nmi h (fun v15 h => ?_)
  refine x_istore_n (lv' := [(3, .int v15), (2, .int v12), (0, .ref (aS 0)), (1, .int p2)]) C dX0_create_66 rfl hl (by decide) rfl (fun ls hl => ?_)
  refine x_iload_n C dX0_create_67 rfl hl 0 rfl ?_
  refine x_bipush (v := (-9 : Int32)) C dX0_create_68 (by decide) ?_
  refine x_icmp_ne (tgt := 86) C h dX0_create_70 (by decide) (fun h => ?_) (fun h => ?_)
  · refine x_aload_n C dX0_create_86 rfl hl 2 rfl ?_
    refine x_get C inX2 hP 0 rfl rfl 14 (by decide) wf_X0_76 rfl dX0_create_87 ?_
    refine x_istore (lv' := [(4, .int (S14.2 14)), (3, .int v15), (2, .int v12), (0, .ref (aS 0)), (1, .int p2)]) C dX0_create_90 hl (by decide) rfl (fun ls hl => ?_)
    refine x_aload_n C dX0_create_92 rfl hl 3 rfl ?_
    refine x_dup C dX0_create_93 rfl ?_
    refine x_get C inX2 hP 0 rfl rfl 14 (by decide) wf_X0_76 rfl dX0_create_94 ?_
    refine x_iconst (v := (1 : Int32)) C dX0_create_97 (by decide) ?_
    refine x_iadd C dX0_create_98 ?_
    refine x_putM (wS cI aS) C h inX2 tyX2 tyX2_ok nmX2 hP hD hS 0 rfl rfl 14 (by decide) wf_X0_76 rfl (ft := .int) (by decide +kernel) rfl rfl (Nat.le_of_ble_eq_true rfl) rfl dX0_create_99 (fun S16 h H locs hP hD hS => ?_)
    refine x_aload_n C dX0_create_102 rfl hl 3 rfl ?_
    refine x_get C inX2 hP 0 rfl rfl 5 (by decide) wf_X0_69 rfl dX0_create_103 ?_
    refine x_iload_n C dX0_create_106 rfl hl 1 rfl ?_
    refine x_iconst (v := (0 : Int32)) C dX0_create_107 (by decide) ?_
    refine x_iload C dX0_create_108 hl 0 rfl ?_
    refine x_callV (As := [.int _, .int _, .int _]) (n := 3) C (kS_put l D cI cS aS _ 5 (by decide) _ _ _) (fun hh => nomatch hh) wm_X0_66 wi_X3_put we_X3_put wz_X3 wc_X3_put (by decide +kernel) rfl hP hD hS hA 11 1 rfl rfl rfl hl.1 dX0_create_110 rfl (Nat.le_of_ble_eq_true rfl) ⟨Nat.le_of_ble_eq_true rfl, Nat.le_of_ble_eq_true rfl⟩ ⟨Nat.zero_le _, Nat.zero_le _⟩ (fun H locs hP hD hS => ?_)
    refine x_nmS (wS cI aS) h hP hD (fun S17 h hP hD => ?_)
    refine x_aload_n C dX0_create_113 rfl hl 3 rfl ?_
    refine x_get C inX2 hP 0 rfl rfl 5 (by decide) wf_X0_69 rfl dX0_create_114 ?_
    refine x_iload_n C dX0_create_117 rfl hl 1 rfl ?_
    refine x_iconst (v := (1 : Int32)) C dX0_create_118 (by decide) ?_
    refine x_iload_n C dX0_create_119 rfl hl 4 rfl ?_
    refine x_callV (As := [.int _, .int _, .int _]) (n := 3) C (kS_put l D cI cS aS _ 5 (by decide) _ _ _) (fun hh => nomatch hh) wm_X0_66 wi_X3_put we_X3_put wz_X3 wc_X3_put (by decide +kernel) rfl hP hD hS hA 11 1 rfl rfl rfl hl.1 dX0_create_120 rfl (Nat.le_of_ble_eq_true rfl) ⟨Nat.le_of_ble_eq_true rfl, Nat.le_of_ble_eq_true rfl⟩ ⟨Nat.zero_le _, Nat.zero_le _⟩ (fun H locs hP hD hS => ?_)
    refine x_nmS (wS cI aS) h hP hD (fun S18 h hP hD => ?_)
    refine x_aload_n C dX0_create_123 rfl hl 3 rfl ?_
    refine x_get C inX2 hP 0 rfl rfl 5 (by decide) wf_X0_69 rfl dX0_create_124 ?_
    refine x_iload_n C dX0_create_127 rfl hl 1 rfl ?_
    refine x_iconst (v := (2 : Int32)) C dX0_create_128 (by decide) ?_
    refine x_aload_n C dX0_create_129 rfl hl 3 rfl ?_
    refine x_get C inX2 hP 0 rfl rfl 12 (by decide) wf_X0_47 rfl dX0_create_130 ?_
    refine x_aload_n C dX0_create_133 rfl hl 3 rfl ?_
    refine x_get C inX2 hP 0 rfl rfl 0 (by decide) wf_X0_37 rfl dX0_create_134 ?_
    refine x_iload_n C dX0_create_137 rfl hl 4 rfl ?_
    refine x_iconst (v := (2 : Int32)) C dX0_create_138 (by decide) ?_
    refine x_callV (As := [.int _, .int _]) (n := 2) C (kS_get l D cI cS aS _ 0 (by decide) _ _) (fun hh => nomatch hh) wm_X0_41 wi_X3_get we_X3_get wz_X3 wc_X3_get (by decide +kernel) rfl hP hD hS hA 1 1 rfl rfl rfl hl.1 dX0_create_139 rfl (Nat.le_of_ble_eq_true rfl) ⟨Nat.le_of_ble_eq_true rfl, Nat.le_of_ble_eq_true rfl⟩ ⟨Nat.zero_le _, Nat.zero_le _⟩ (fun H locs hP hD hS => ?_)
    refine x_iadd C dX0_create_142 ?_
    refine x_callV (As := [.int _, .int _, .int _]) (n := 3) C (kS_put l D cI cS aS _ 5 (by decide) _ _ _) (fun hh => nomatch hh) wm_X0_66 wi_X3_put we_X3_put wz_X3 wc_X3_put (by decide +kernel) rfl hP hD hS hA 11 1 rfl rfl rfl hl.1 dX0_create_143 rfl (Nat.le_of_ble_eq_true rfl) ⟨Nat.le_of_ble_eq_true rfl, Nat.le_of_ble_eq_true rfl⟩ ⟨Nat.zero_le _, Nat.zero_le _⟩ (fun H locs hP hD hS => ?_)
    refine x_nmS (wS cI aS) h hP hD (fun S19 h hP hD => ?_)
    refine x_iload C dX0_create_146 hl 0 rfl ?_
    exact RETh dX0_create_148 h hP hD hS
  · refine x_aload_n C dX0_create_73 rfl hl 2 rfl ?_
    refine x_get C inX2 hP 0 rfl rfl 1 (by decide) wf_X0_54 rfl dX0_create_74 ?_
    refine x_iload_n C dX0_create_77 rfl hl 3 rfl ?_
    refine x_iconst (v := (3 : Int32)) C dX0_create_78 (by decide) ?_
    refine x_iconst (v := (1 : Int32)) C dX0_create_79 (by decide) ?_
    refine x_callV (As := [.int _, .int _, .int _]) (n := 3) C (kS_add l D cI cS aS _ 1 (by decide) _ _ _) (fun hh => nomatch hh) wm_X0_57 wi_X3_add we_X3_add wz_X3 wc_X3_add (by decide +kernel) rfl hP hD hS hA 3 1 rfl rfl rfl hl.1 dX0_create_80 rfl (Nat.le_of_ble_eq_true rfl) ⟨Nat.le_of_ble_eq_true rfl, Nat.le_of_ble_eq_true rfl⟩ ⟨Nat.zero_le _, Nat.zero_le _⟩ (fun H locs hP hD hS => ?_)
    refine x_nmS (wS cI aS) h hP hD (fun S20 h hP hD => ?_)
    refine x_bipush (v := (-9 : Int32)) C dX0_create_83 (by decide) ?_
    exact RETh dX0_create_85 h hP hD hS
theorem dX1_enqueue_0 : decode cX1_enqueue 0 = .ok (.aload_n 0, 1) := by decide +kernel
theorem dX1_enqueue_1 : decode cX1_enqueue 1 = .ok (.getfield 9, 3) := by decide +kernel
theorem dX1_enqueue_4 : decode cX1_enqueue 4 = .ok (.iload_n 1, 1) := by decide +kernel
theorem dX1_enqueue_5 : decode cX1_enqueue 5 = .ok (.iconst 1, 1) := by decide +kernel
theorem dX1_enqueue_6 : decode cX1_enqueue 6 = .ok (.invokevirtual 15, 3) := by decide +kernel
theorem dX1_enqueue_9 : decode cX1_enqueue 9 = .ok (.istore_n 2, 1) := by decide +kernel
theorem dX1_enqueue_10 : decode cX1_enqueue 10 = .ok (.aload_n 0, 1) := by decide +kernel
theorem dX1_enqueue_11 : decode cX1_enqueue 11 = .ok (.getfield 21, 3) := by decide +kernel
theorem dX1_enqueue_14 : decode cX1_enqueue 14 = .ok (.invokevirtual 24, 3) := by decide +kernel
theorem dX1_enqueue_17 : decode cX1_enqueue 17 = .ok (.istore_n 3, 1) := by decide +kernel
theorem dX1_enqueue_18 : decode cX1_enqueue 18 = .ok (.aload_n 0, 1) := by decide +kernel
theorem dX1_enqueue_19 : decode cX1_enqueue 19 = .ok (.getfield 21, 3) := by decide +kernel
theorem dX1_enqueue_22 : decode cX1_enqueue 22 = .ok (.iload_n 3, 1) := by decide +kernel
theorem dX1_enqueue_23 : decode cX1_enqueue 23 = .ok (.iconst 0, 1) := by decide +kernel
theorem dX1_enqueue_24 : decode cX1_enqueue 24 = .ok (.aload_n 0, 1) := by decide +kernel
theorem dX1_enqueue_25 : decode cX1_enqueue 25 = .ok (.getfield 9, 3) := by decide +kernel
theorem dX1_enqueue_28 : decode cX1_enqueue 28 = .ok (.iload_n 1, 1) := by decide +kernel
theorem dX1_enqueue_29 : decode cX1_enqueue 29 = .ok (.iconst 0, 1) := by decide +kernel
theorem dX1_enqueue_30 : decode cX1_enqueue 30 = .ok (.invokevirtual 15, 3) := by decide +kernel
theorem dX1_enqueue_33 : decode cX1_enqueue 33 = .ok (.invokevirtual 28, 3) := by decide +kernel
theorem dX1_enqueue_36 : decode cX1_enqueue 36 = .ok (.aload_n 0, 1) := by decide +kernel
theorem dX1_enqueue_37 : decode cX1_enqueue 37 = .ok (.getfield 21, 3) := by decide +kernel
theorem dX1_enqueue_40 : decode cX1_enqueue 40 = .ok (.iload_n 3, 1) := by decide +kernel
theorem dX1_enqueue_41 : decode cX1_enqueue 41 = .ok (.iconst 1, 1) := by decide +kernel
theorem dX1_enqueue_42 : decode cX1_enqueue 42 = .ok (.aload_n 0, 1) := by decide +kernel
theorem dX1_enqueue_43 : decode cX1_enqueue 43 = .ok (.getfield 9, 3) := by decide +kernel
theorem dX1_enqueue_46 : decode cX1_enqueue 46 = .ok (.iload_n 1, 1) := by decide +kernel
theorem dX1_enqueue_47 : decode cX1_enqueue 47 = .ok (.iconst 5, 1) := by decide +kernel
theorem dX1_enqueue_48 : decode cX1_enqueue 48 = .ok (.invokevirtual 15, 3) := by decide +kernel
theorem dX1_enqueue_51 : decode cX1_enqueue 51 = .ok (.invokevirtual 28, 3) := by decide +kernel
theorem dX1_enqueue_54 : decode cX1_enqueue 54 = .ok (.aload_n 0, 1) := by decide +kernel
theorem dX1_enqueue_55 : decode cX1_enqueue 55 = .ok (.getfield 21, 3) := by decide +kernel
theorem dX1_enqueue_58 : decode cX1_enqueue 58 = .ok (.iload_n 3, 1) := by decide +kernel
theorem dX1_enqueue_59 : decode cX1_enqueue 59 = .ok (.iconst 2, 1) := by decide +kernel
theorem dX1_enqueue_60 : decode cX1_enqueue 60 = .ok (.aload_n 0, 1) := by decide +kernel
theorem dX1_enqueue_61 : decode cX1_enqueue 61 = .ok (.getfield 32, 3) := by decide +kernel
theorem dX1_enqueue_64 : decode cX1_enqueue 64 = .ok (.iload_n 2, 1) := by decide +kernel
theorem dX1_enqueue_65 : decode cX1_enqueue 65 = .ok (.bipush 8, 2) := by decide +kernel
theorem dX1_enqueue_67 : decode cX1_enqueue 67 = .ok (.invokevirtual 15, 3) := by decide +kernel
theorem dX1_enqueue_70 : decode cX1_enqueue 70 = .ok (.invokevirtual 28, 3) := by decide +kernel
theorem dX1_enqueue_73 : decode cX1_enqueue 73 = .ok (.aload_n 0, 1) := by decide +kernel
theorem dX1_enqueue_74 : decode cX1_enqueue 74 = .ok (.getfield 21, 3) := by decide +kernel
theorem dX1_enqueue_77 : decode cX1_enqueue 77 = .ok (.iload_n 3, 1) := by decide +kernel
theorem dX1_enqueue_78 : decode cX1_enqueue 78 = .ok (.iconst 3, 1) := by decide +kernel
theorem dX1_enqueue_79 : decode cX1_enqueue 79 = .ok (.aload_n 0, 1) := by decide +kernel
theorem dX1_enqueue_80 : decode cX1_enqueue 80 = .ok (.getfield 32, 3) := by decide +kernel
theorem dX1_enqueue_83 : decode cX1_enqueue 83 = .ok (.iload_n 2, 1) := by decide +kernel
theorem dX1_enqueue_84 : decode cX1_enqueue 84 = .ok (.bipush 9, 2) := by decide +kernel
theorem dX1_enqueue_86 : decode cX1_enqueue 86 = .ok (.invokevirtual 15, 3) := by decide +kernel
theorem dX1_enqueue_89 : decode cX1_enqueue 89 = .ok (.invokevirtual 28, 3) := by decide +kernel
theorem dX1_enqueue_92 : decode cX1_enqueue 92 = .ok (.return_, 1) := by decide +kernel
def fX1_enqueue (p2 : Int32) (S : StS) : Option (StS) :=
  nm ((sget 5 S p2 (1 : Int32))) fun v8 => nm (sappend 6 S).2 fun S9 => nm ((sappend 6 S).1) fun v10 => nm (sput 6 S9 v10 (0 : Int32) ((sget 5 S9 p2 (0 : Int32)))) fun S11 => nm (sput 6 S11 v10 (1 : Int32) ((sget 5 S11 p2 (5 : Int32)))) fun S12 => nm (sput 6 S12 v10 (2 : Int32) ((sget 0 S12 v8 (8 : Int32)))) fun S13 => nm (sput 6 S13 v10 (3 : Int32) ((sget 0 S13 v8 (9 : Int32)))) fun S14 => some S14
set_option maxHeartbeats 4000000 in
set_option maxRecDepth 100000 in
theorem kX1_enqueue (l : Launch) (D : va_G) (cI cS : ClassId) (aS : Nat → Nat) (p2 : Int32) (S : StS) {q : StS} (h : fX1_enqueue p2 S = some q) : Mc l D (tyL cI cS) false yX1_enqueue cX1_enqueue 4 none 4 [.ref (aS 0), .int p2] (wS cI aS S) none (wS cI aS q) := by
  refine Mc_of RX1 (by decide +kernel) rfl wc_X1_enqueue (Nat.le_of_ble_eq_true rfl) ?_
  intro p e s m args below meth c A Q ls C hA hz hP hD hS hl RET
  have RETh : ∀ {pc : Nat} {ls : Array Slot} {H : Heap} {locs : List Loc} {S1 : StS}, decode cX1_enqueue pc = .ok (.return_, 1) → some S1 = some q → va_P D vwCl (wS cI aS S1) H → va_D A (wS cI aS S1) → va_S A s.heap H locs → W p l e (rmL 4) s m args below meth c H locs 0 0 Q (F0 m pc ls []) := by
    intro pc ls H locs S1 hd h hP hD hS; cases h; exact RET (x_vret C hd) hP hD hS
  refine x_aload_n C dX1_enqueue_0 rfl hl 0 rfl ?_
  refine x_get C inX2 hP 0 rfl rfl 5 (by decide) wf_X1_9 rfl dX1_enqueue_1 ?_
  refine x_iload_n C dX1_enqueue_4 rfl hl 1 rfl ?_
  refine x_iconst (v := (1 : Int32)) C dX1_enqueue_5 (by decide) ?_
  refine x_callV (As := [.int _, .int _]) (n := 2) C (kS_get l D cI cS aS _ 5 (by decide) _ _) (fun hh => nomatch hh) wm_X1_15 wi_X3_get we_X3_get wz_X3 wc_X3_get (by decide +kernel) rfl hP hD hS hA 11 1 rfl rfl rfl hl.1 dX1_enqueue_6 rfl (Nat.le_of_ble_eq_true rfl) ⟨Nat.le_of_ble_eq_true rfl, Nat.le_of_ble_eq_true rfl⟩ ⟨Nat.zero_le _, Nat.zero_le _⟩ (fun H locs hP hD hS => ?_)
  refine x_nmi h (fun v8 h => ?_)
  refine x_istore_n (lv' := [(2, .int v8), (0, .ref (aS 0)), (1, .int p2)]) C dX1_enqueue_9 rfl hl (by decide) rfl (fun ls hl => ?_)
  refine x_aload_n C dX1_enqueue_10 rfl hl 1 rfl ?_
  refine x_get C inX2 hP 0 rfl rfl 6 (by decide) wf_X1_21 rfl dX1_enqueue_11 ?_
  refine x_callV (As := []) (n := 0) C (kS_append l D cI cS aS _ 6 (by decide)) (fun hh => nomatch hh) wm_X1_24 wi_X3_append we_X3_append wz_X3 wc_X3_append (by decide +kernel) rfl hP hD hS hA 13 1 rfl rfl rfl hl.1 dX1_enqueue_14 rfl (Nat.le_of_ble_eq_true rfl) ⟨Nat.le_of_ble_eq_true rfl, Nat.le_of_ble_eq_true rfl⟩ ⟨Nat.zero_le _, Nat.zero_le _⟩ (fun H locs hP hD hS => ?_)
  refine x_nmS (wS cI aS) h hP hD (fun S9 h hP hD => ?_)
  refine x_nmi h (fun v10 h => ?_)
  refine x_istore_n (lv' := [(3, .int v10), (2, .int v8), (0, .ref (aS 0)), (1, .int p2)]) C dX1_enqueue_17 rfl hl (by decide) rfl (fun ls hl => ?_)
  refine x_aload_n C dX1_enqueue_18 rfl hl 2 rfl ?_
  refine x_get C inX2 hP 0 rfl rfl 6 (by decide) wf_X1_21 rfl dX1_enqueue_19 ?_
  refine x_iload_n C dX1_enqueue_22 rfl hl 0 rfl ?_
  refine x_iconst (v := (0 : Int32)) C dX1_enqueue_23 (by decide) ?_
  refine x_aload_n C dX1_enqueue_24 rfl hl 2 rfl ?_
  refine x_get C inX2 hP 0 rfl rfl 5 (by decide) wf_X1_9 rfl dX1_enqueue_25 ?_
  refine x_iload_n C dX1_enqueue_28 rfl hl 3 rfl ?_
  refine x_iconst (v := (0 : Int32)) C dX1_enqueue_29 (by decide) ?_
  refine x_callV (As := [.int _, .int _]) (n := 2) C (kS_get l D cI cS aS _ 5 (by decide) _ _) (fun hh => nomatch hh) wm_X1_15 wi_X3_get we_X3_get wz_X3 wc_X3_get (by decide +kernel) rfl hP hD hS hA 11 1 rfl rfl rfl hl.1 dX1_enqueue_30 rfl (Nat.le_of_ble_eq_true rfl) ⟨Nat.le_of_ble_eq_true rfl, Nat.le_of_ble_eq_true rfl⟩ ⟨Nat.zero_le _, Nat.zero_le _⟩ (fun H locs hP hD hS => ?_)
  refine x_callV (As := [.int _, .int _, .int _]) (n := 3) C (kS_put l D cI cS aS _ 6 (by decide) _ _ _) (fun hh => nomatch hh) wm_X1_28 wi_X3_put we_X3_put wz_X3 wc_X3_put (by decide +kernel) rfl hP hD hS hA 13 1 rfl rfl rfl hl.1 dX1_enqueue_33 rfl (Nat.le_of_ble_eq_true rfl) ⟨Nat.le_of_ble_eq_true rfl, Nat.le_of_ble_eq_true rfl⟩ ⟨Nat.zero_le _, Nat.zero_le _⟩ (fun H locs hP hD hS => ?_)
  refine x_nmS (wS cI aS) h hP hD (fun S11 h hP hD => ?_)
  refine x_aload_n C dX1_enqueue_36 rfl hl 2 rfl ?_
  refine x_get C inX2 hP 0 rfl rfl 6 (by decide) wf_X1_21 rfl dX1_enqueue_37 ?_
  refine x_iload_n C dX1_enqueue_40 rfl hl 0 rfl ?_
  refine x_iconst (v := (1 : Int32)) C dX1_enqueue_41 (by decide) ?_
  refine x_aload_n C dX1_enqueue_42 rfl hl 2 rfl ?_
  refine x_get C inX2 hP 0 rfl rfl 5 (by decide) wf_X1_9 rfl dX1_enqueue_43 ?_
  refine x_iload_n C dX1_enqueue_46 rfl hl 3 rfl ?_
  refine x_iconst (v := (5 : Int32)) C dX1_enqueue_47 (by decide) ?_
  refine x_callV (As := [.int _, .int _]) (n := 2) C (kS_get l D cI cS aS _ 5 (by decide) _ _) (fun hh => nomatch hh) wm_X1_15 wi_X3_get we_X3_get wz_X3 wc_X3_get (by decide +kernel) rfl hP hD hS hA 11 1 rfl rfl rfl hl.1 dX1_enqueue_48 rfl (Nat.le_of_ble_eq_true rfl) ⟨Nat.le_of_ble_eq_true rfl, Nat.le_of_ble_eq_true rfl⟩ ⟨Nat.zero_le _, Nat.zero_le _⟩ (fun H locs hP hD hS => ?_)
  refine x_callV (As := [.int _, .int _, .int _]) (n := 3) C (kS_put l D cI cS aS _ 6 (by decide) _ _ _) (fun hh => nomatch hh) wm_X1_28 wi_X3_put we_X3_put wz_X3 wc_X3_put (by decide +kernel) rfl hP hD hS hA 13 1 rfl rfl rfl hl.1 dX1_enqueue_51 rfl (Nat.le_of_ble_eq_true rfl) ⟨Nat.le_of_ble_eq_true rfl, Nat.le_of_ble_eq_true rfl⟩ ⟨Nat.zero_le _, Nat.zero_le _⟩ (fun H locs hP hD hS => ?_)
  refine x_nmS (wS cI aS) h hP hD (fun S12 h hP hD => ?_)
  refine x_aload_n C dX1_enqueue_54 rfl hl 2 rfl ?_
  refine x_get C inX2 hP 0 rfl rfl 6 (by decide) wf_X1_21 rfl dX1_enqueue_55 ?_
  refine x_iload_n C dX1_enqueue_58 rfl hl 0 rfl ?_
  refine x_iconst (v := (2 : Int32)) C dX1_enqueue_59 (by decide) ?_
  refine x_aload_n C dX1_enqueue_60 rfl hl 2 rfl ?_
  refine x_get C inX2 hP 0 rfl rfl 0 (by decide) wf_X1_32 rfl dX1_enqueue_61 ?_
  refine x_iload_n C dX1_enqueue_64 rfl hl 1 rfl ?_
  refine x_bipush (v := (8 : Int32)) C dX1_enqueue_65 (by decide) ?_
  refine x_callV (As := [.int _, .int _]) (n := 2) C (kS_get l D cI cS aS _ 0 (by decide) _ _) (fun hh => nomatch hh) wm_X1_15 wi_X3_get we_X3_get wz_X3 wc_X3_get (by decide +kernel) rfl hP hD hS hA 1 1 rfl rfl rfl hl.1 dX1_enqueue_67 rfl (Nat.le_of_ble_eq_true rfl) ⟨Nat.le_of_ble_eq_true rfl, Nat.le_of_ble_eq_true rfl⟩ ⟨Nat.zero_le _, Nat.zero_le _⟩ (fun H locs hP hD hS => ?_)
  refine x_callV (As := [.int _, .int _, .int _]) (n := 3) C (kS_put l D cI cS aS _ 6 (by decide) _ _ _) (fun hh => nomatch hh) wm_X1_28 wi_X3_put we_X3_put wz_X3 wc_X3_put (by decide +kernel) rfl hP hD hS hA 13 1 rfl rfl rfl hl.1 dX1_enqueue_70 rfl (Nat.le_of_ble_eq_true rfl) ⟨Nat.le_of_ble_eq_true rfl, Nat.le_of_ble_eq_true rfl⟩ ⟨Nat.zero_le _, Nat.zero_le _⟩ (fun H locs hP hD hS => ?_)
  refine x_nmS (wS cI aS) h hP hD (fun S13 h hP hD => ?_)
  refine x_aload_n C dX1_enqueue_73 rfl hl 2 rfl ?_
  refine x_get C inX2 hP 0 rfl rfl 6 (by decide) wf_X1_21 rfl dX1_enqueue_74 ?_
  refine x_iload_n C dX1_enqueue_77 rfl hl 0 rfl ?_
  refine x_iconst (v := (3 : Int32)) C dX1_enqueue_78 (by decide) ?_
  refine x_aload_n C dX1_enqueue_79 rfl hl 2 rfl ?_
  refine x_get C inX2 hP 0 rfl rfl 0 (by decide) wf_X1_32 rfl dX1_enqueue_80 ?_
  refine x_iload_n C dX1_enqueue_83 rfl hl 1 rfl ?_
  refine x_bipush (v := (9 : Int32)) C dX1_enqueue_84 (by decide) ?_
  refine x_callV (As := [.int _, .int _]) (n := 2) C (kS_get l D cI cS aS _ 0 (by decide) _ _) (fun hh => nomatch hh) wm_X1_15 wi_X3_get we_X3_get wz_X3 wc_X3_get (by decide +kernel) rfl hP hD hS hA 1 1 rfl rfl rfl hl.1 dX1_enqueue_86 rfl (Nat.le_of_ble_eq_true rfl) ⟨Nat.le_of_ble_eq_true rfl, Nat.le_of_ble_eq_true rfl⟩ ⟨Nat.zero_le _, Nat.zero_le _⟩ (fun H locs hP hD hS => ?_)
  refine x_callV (As := [.int _, .int _, .int _]) (n := 3) C (kS_put l D cI cS aS _ 6 (by decide) _ _ _) (fun hh => nomatch hh) wm_X1_28 wi_X3_put we_X3_put wz_X3 wc_X3_put (by decide +kernel) rfl hP hD hS hA 13 1 rfl rfl rfl hl.1 dX1_enqueue_89 rfl (Nat.le_of_ble_eq_true rfl) ⟨Nat.le_of_ble_eq_true rfl, Nat.le_of_ble_eq_true rfl⟩ ⟨Nat.zero_le _, Nat.zero_le _⟩ (fun H locs hP hD hS => ?_)
  refine x_nmS (wS cI aS) h hP hD (fun S14 h hP hD => ?_)
  exact RETh dX1_enqueue_92 h hP hD hS
theorem dX0_send_0 : decode cX0_send 0 = .ok (.aload_n 0, 1) := by decide +kernel
theorem dX0_send_1 : decode cX0_send 1 = .ok (.getfield 69, 3) := by decide +kernel
theorem dX0_send_4 : decode cX0_send 4 = .ok (.iconst 0, 1) := by decide +kernel
theorem dX0_send_5 : decode cX0_send 5 = .ok (.iload_n 1, 1) := by decide +kernel
theorem dX0_send_6 : decode cX0_send 6 = .ok (.invokevirtual 79, 3) := by decide +kernel
theorem dX0_send_9 : decode cX0_send 9 = .ok (.istore_n 2, 1) := by decide +kernel
theorem dX0_send_10 : decode cX0_send 10 = .ok (.iload_n 2, 1) := by decide +kernel
theorem dX0_send_11 : decode cX0_send 11 = .ok (.bipush (-9), 2) := by decide +kernel
theorem dX0_send_13 : decode cX0_send 13 = .ok (.if_icmp .ne 6, 3) := by decide +kernel
theorem dX0_send_16 : decode cX0_send 16 = .ok (.bipush (-9), 2) := by decide +kernel
theorem dX0_send_18 : decode cX0_send 18 = .ok (.ireturn, 1) := by decide +kernel
theorem dX0_send_19 : decode cX0_send 19 = .ok (.aload_n 0, 1) := by decide +kernel
theorem dX0_send_20 : decode cX0_send 20 = .ok (.getfield 69, 3) := by decide +kernel
theorem dX0_send_23 : decode cX0_send 23 = .ok (.iload_n 2, 1) := by decide +kernel
theorem dX0_send_24 : decode cX0_send 24 = .ok (.iconst 1, 1) := by decide +kernel
theorem dX0_send_25 : decode cX0_send 25 = .ok (.invokevirtual 41, 3) := by decide +kernel
theorem dX0_send_28 : decode cX0_send 28 = .ok (.istore_n 3, 1) := by decide +kernel
theorem dX0_send_29 : decode cX0_send 29 = .ok (.aload_n 0, 1) := by decide +kernel
theorem dX0_send_30 : decode cX0_send 30 = .ok (.getfield 37, 3) := by decide +kernel
theorem dX0_send_33 : decode cX0_send 33 = .ok (.iload_n 3, 1) := by decide +kernel
theorem dX0_send_34 : decode cX0_send 34 = .ok (.iconst 4, 1) := by decide +kernel
theorem dX0_send_35 : decode cX0_send 35 = .ok (.invokevirtual 41, 3) := by decide +kernel
theorem dX0_send_38 : decode cX0_send 38 = .ok (.istore 4, 2) := by decide +kernel
theorem dX0_send_40 : decode cX0_send 40 = .ok (.aload_n 0, 1) := by decide +kernel
theorem dX0_send_41 : decode cX0_send 41 = .ok (.getfield 54, 3) := by decide +kernel
theorem dX0_send_44 : decode cX0_send 44 = .ok (.iload_n 3, 1) := by decide +kernel
theorem dX0_send_45 : decode cX0_send 45 = .ok (.iconst 1, 1) := by decide +kernel
theorem dX0_send_46 : decode cX0_send 46 = .ok (.iconst 1, 1) := by decide +kernel
theorem dX0_send_47 : decode cX0_send 47 = .ok (.invokevirtual 57, 3) := by decide +kernel
theorem dX0_send_50 : decode cX0_send 50 = .ok (.aload_n 0, 1) := by decide +kernel
theorem dX0_send_51 : decode cX0_send 51 = .ok (.getfield 69, 3) := by decide +kernel
theorem dX0_send_54 : decode cX0_send 54 = .ok (.iload_n 2, 1) := by decide +kernel
theorem dX0_send_55 : decode cX0_send 55 = .ok (.iconst 3, 1) := by decide +kernel
theorem dX0_send_56 : decode cX0_send 56 = .ok (.iconst 1, 1) := by decide +kernel
theorem dX0_send_57 : decode cX0_send 57 = .ok (.invokevirtual 57, 3) := by decide +kernel
theorem dX0_send_60 : decode cX0_send 60 = .ok (.aload_n 0, 1) := by decide +kernel
theorem dX0_send_61 : decode cX0_send 61 = .ok (.getfield 69, 3) := by decide +kernel
theorem dX0_send_64 : decode cX0_send 64 = .ok (.iload_n 2, 1) := by decide +kernel
theorem dX0_send_65 : decode cX0_send 65 = .ok (.iconst 4, 1) := by decide +kernel
theorem dX0_send_66 : decode cX0_send 66 = .ok (.iconst 0, 1) := by decide +kernel
theorem dX0_send_67 : decode cX0_send 67 = .ok (.invokevirtual 66, 3) := by decide +kernel
theorem dX0_send_70 : decode cX0_send 70 = .ok (.aload_n 0, 1) := by decide +kernel
theorem dX0_send_71 : decode cX0_send 71 = .ok (.getfield 69, 3) := by decide +kernel
theorem dX0_send_74 : decode cX0_send 74 = .ok (.iload_n 2, 1) := by decide +kernel
theorem dX0_send_75 : decode cX0_send 75 = .ok (.iconst 5, 1) := by decide +kernel
theorem dX0_send_76 : decode cX0_send 76 = .ok (.aload_n 0, 1) := by decide +kernel
theorem dX0_send_77 : decode cX0_send 77 = .ok (.getfield 47, 3) := by decide +kernel
theorem dX0_send_80 : decode cX0_send 80 = .ok (.iload 4, 2) := by decide +kernel
theorem dX0_send_82 : decode cX0_send 82 = .ok (.iadd, 1) := by decide +kernel
theorem dX0_send_83 : decode cX0_send 83 = .ok (.aload_n 0, 1) := by decide +kernel
theorem dX0_send_84 : decode cX0_send 84 = .ok (.getfield 69, 3) := by decide +kernel
theorem dX0_send_87 : decode cX0_send 87 = .ok (.iload_n 2, 1) := by decide +kernel
theorem dX0_send_88 : decode cX0_send 88 = .ok (.iconst 2, 1) := by decide +kernel
theorem dX0_send_89 : decode cX0_send 89 = .ok (.invokevirtual 41, 3) := by decide +kernel
theorem dX0_send_92 : decode cX0_send 92 = .ok (.invokestatic 61, 3) := by decide +kernel
theorem dX0_send_95 : decode cX0_send 95 = .ok (.invokevirtual 66, 3) := by decide +kernel
theorem dX0_send_98 : decode cX0_send 98 = .ok (.bipush (-9), 2) := by decide +kernel
theorem dX0_send_100 : decode cX0_send 100 = .ok (.istore 5, 2) := by decide +kernel
theorem dX0_send_102 : decode cX0_send 102 = .ok (.aload_n 0, 1) := by decide +kernel
theorem dX0_send_103 : decode cX0_send 103 = .ok (.getfield 82, 3) := by decide +kernel
theorem dX0_send_106 : decode cX0_send 106 = .ok (.invokevirtual 85, 3) := by decide +kernel
theorem dX0_send_109 : decode cX0_send 109 = .ok (.aload_n 0, 1) := by decide +kernel
theorem dX0_send_110 : decode cX0_send 110 = .ok (.getfield 88, 3) := by decide +kernel
theorem dX0_send_113 : decode cX0_send 113 = .ok (.iconst 1, 1) := by decide +kernel
theorem dX0_send_114 : decode cX0_send 114 = .ok (.iconst 0, 1) := by decide +kernel
theorem dX0_send_115 : decode cX0_send 115 = .ok (.invokevirtual 41, 3) := by decide +kernel
theorem dX0_send_118 : decode cX0_send 118 = .ok (.if_icmp .lt 36, 3) := by decide +kernel
theorem dX0_send_121 : decode cX0_send 121 = .ok (.aload_n 0, 1) := by decide +kernel
theorem dX0_send_122 : decode cX0_send 122 = .ok (.getfield 91, 3) := by decide +kernel
theorem dX0_send_125 : decode cX0_send 125 = .ok (.iconst 0, 1) := by decide +kernel
theorem dX0_send_126 : decode cX0_send 126 = .ok (.iconst 0, 1) := by decide +kernel
theorem dX0_send_127 : decode cX0_send 127 = .ok (.invokevirtual 41, 3) := by decide +kernel
theorem dX0_send_130 : decode cX0_send 130 = .ok (.ifCond .ne 5, 3) := by decide +kernel
theorem dX0_send_133 : decode cX0_send 133 = .ok (.iload_n 1, 1) := by decide +kernel
theorem dX0_send_134 : decode cX0_send 134 = .ok (.ireturn, 1) := by decide +kernel
theorem dX0_send_135 : decode cX0_send 135 = .ok (.aload_n 0, 1) := by decide +kernel
theorem dX0_send_136 : decode cX0_send 136 = .ok (.getfield 82, 3) := by decide +kernel
theorem dX0_send_139 : decode cX0_send 139 = .ok (.iconst 0, 1) := by decide +kernel
theorem dX0_send_140 : decode cX0_send 140 = .ok (.iconst 0, 1) := by decide +kernel
theorem dX0_send_141 : decode cX0_send 141 = .ok (.invokevirtual 41, 3) := by decide +kernel
theorem dX0_send_144 : decode cX0_send 144 = .ok (.istore 5, 2) := by decide +kernel
theorem dX0_send_146 : decode cX0_send 146 = .ok (.aload_n 0, 1) := by decide +kernel
theorem dX0_send_147 : decode cX0_send 147 = .ok (.getfield 82, 3) := by decide +kernel
theorem dX0_send_150 : decode cX0_send 150 = .ok (.iconst 0, 1) := by decide +kernel
theorem dX0_send_151 : decode cX0_send 151 = .ok (.invokevirtual 94, 3) := by decide +kernel
theorem dX0_send_154 : decode cX0_send 154 = .ok (.aload_n 0, 1) := by decide +kernel
theorem dX0_send_155 : decode cX0_send 155 = .ok (.iload_n 2, 1) := by decide +kernel
theorem dX0_send_156 : decode cX0_send 156 = .ok (.invokestatic 98, 3) := by decide +kernel
theorem dX0_send_159 : decode cX0_send 159 = .ok (.iload 5, 2) := by decide +kernel
theorem dX0_send_161 : decode cX0_send 161 = .ok (.ireturn, 1) := by decide +kernel
def bfX0_send_154 (p2 : Int32) (x2 : Int32) (x5 : Int32) (S : StS) : Option (Int32 × (StS)) :=
  ob (fX1_enqueue x2 S) fun u11 => some (x5, u11)
def fX0_send (p2 : Int32) (S : StS) : Option (Int32 × (StS)) :=
  nm ((sfind 5 S (0 : Int32) p2)) fun v12 => (if v12 = (-9 : Int32) then some ((-9 : Int32), S) else nm ((sget 5 S v12 (1 : Int32))) fun v13 => nm ((sget 0 S v13 (4 : Int32))) fun v14 => nm (sadd 1 S v13 (1 : Int32) (1 : Int32)) fun S15 => nm (sadd 5 S15 v12 (3 : Int32) (1 : Int32)) fun S16 => nm (sput 5 S16 v12 (4 : Int32) (0 : Int32)) fun S17 => nm (sput 5 S17 v12 (5 : Int32) ((if (sget 5 S17 v12 (2 : Int32)) < ((S17.2 12) + v14) then (sget 5 S17 v12 (2 : Int32)) else ((S17.2 12) + v14)))) fun S18 => (if (ssize 6 S18) < (sget 3 S18 (1 : Int32) (0 : Int32)) then bfX0_send_154 p2  v12 ((-9 : Int32)) S18 else (if (sget 4 S18 (0 : Int32) (0 : Int32)) = 0 then some (p2, S18) else nm ((sget 6 S18 (0 : Int32) (0 : Int32))) fun v19 => nm (sdrop 6 S18 (0 : Int32)) fun S20 => bfX0_send_154 p2  v12 v19 S20)))
set_option maxHeartbeats 4000000 in
set_option maxRecDepth 100000 in
theorem kX0_send (l : Launch) (D : va_G) (cI cS : ClassId) (aS : Nat → Nat) (p2 : Int32) (S : StS) {q : Int32 × (StS)} (h : fX0_send p2 S = some q) : Mc l D (tyL cI cS) false yX0_send cX0_send 6 (some .int) 5 [.ref (aS 0), .int p2] (wS cI aS S) (some (.int q.1)) (wS cI aS q.2) := by
  refine Mc_of RX0 (by decide +kernel) rfl wc_X0_send (Nat.le_of_ble_eq_true rfl) ?_
  intro p e s m args below meth c A Q ls C hA hz hP hD hS hl RET
  have RETh : ∀ {pc : Nat} {ls : Array Slot} {H : Heap} {locs : List Loc} {x : Int32} {S1 : StS}, decode cX0_send pc = .ok (.ireturn, 1) → some (x, S1) = some q → va_P D vwCl (wS cI aS S1) H → va_D A (wS cI aS S1) → va_S A s.heap H locs → W p l e (rmL 5) s m args below meth c H locs 0 0 Q (F0 m pc ls [.int x]) := by
    intro pc ls H locs x S1 hd h hP hD hS; cases h; exact RET (x_iret C hd) hP hD hS
  have B154 : ∀ (x2 : Int32) (x5 : Int32) (S : StS), bfX0_send_154 p2 x2 x5 S = some q → ∀ (H : Heap) (locs : List Loc) (ls : Array Slot), va_P D vwCl (wS cI aS S) H → va_D A (wS cI aS S) → va_S A s.heap H locs → lv_has ls 6 [(0, .ref (aS 0)), (2, .int x2), (5, .int x5)] → W p l e (rmL 5) s m args below meth c H locs 0 0 Q (F0 m 154 ls []) := by
    intro x2 x5 S h H locs ls hP hD hS hl
    refine x_aload_n C dX0_send_154 rfl hl 0 rfl ?_
    refine x_iload_n C dX0_send_155 rfl hl 1 rfl ?_
    obtain ⟨u11, hu11, h⟩ := ob_some h
    refine x_callS (As := [.ref _, .int _]) (n := 2) C (kX1_enqueue l D cI cS aS _ _ hu11) (fun hh => nomatch hh) wm_X0_98 wt_X1_enqueue wz_X1 wc_X1_enqueue (by decide +kernel) rfl hP hD hS hA hl.1 dX0_send_156 rfl (Nat.le_of_ble_eq_true rfl) ⟨Nat.le_of_ble_eq_true rfl, Nat.le_of_ble_eq_true rfl⟩ ⟨Nat.zero_le _, Nat.zero_le _⟩ (fun H locs hP hD hS => ?_)
    refine x_iload C dX0_send_159 hl 2 rfl ?_
    exact RETh dX0_send_161 h hP hD hS
  refine x_aload_n C dX0_send_0 rfl hl 0 rfl ?_
  refine x_get C inX2 hP 0 rfl rfl 5 (by decide) wf_X0_69 rfl dX0_send_1 ?_
  refine x_iconst (v := (0 : Int32)) C dX0_send_4 (by decide) ?_
  refine x_iload_n C dX0_send_5 rfl hl 1 rfl ?_
  refine x_callV (As := [.int _, .int _]) (n := 2) C (kS_find l D cI cS aS _ 5 (by decide) _ _) (fun hh => nomatch hh) wm_X0_79 wi_X3_find we_X3_find wz_X3 wc_X3_find (by decide +kernel) rfl hP hD hS hA 11 1 rfl rfl rfl hl.1 dX0_send_6 rfl (Nat.le_of_ble_eq_true rfl) ⟨Nat.le_of_ble_eq_true rfl, Nat.le_of_ble_eq_true rfl⟩ ⟨Nat.zero_le _, Nat.zero_le _⟩ (fun H locs hP hD hS => ?_)
  refine x_nmi h (fun v12 h => ?_)
  refine x_istore_n (lv' := [(2, .int v12), (0, .ref (aS 0)), (1, .int p2)]) C dX0_send_9 rfl hl (by decide) rfl (fun ls hl => ?_)
  refine x_iload_n C dX0_send_10 rfl hl 0 rfl ?_
  refine x_bipush (v := (-9 : Int32)) C dX0_send_11 (by decide) ?_
  refine x_icmp_ne (tgt := 19) C h dX0_send_13 (by decide) (fun h => ?_) (fun h => ?_)
  · refine x_aload_n C dX0_send_19 rfl hl 1 rfl ?_
    refine x_get C inX2 hP 0 rfl rfl 5 (by decide) wf_X0_69 rfl dX0_send_20 ?_
    refine x_iload_n C dX0_send_23 rfl hl 0 rfl ?_
    refine x_iconst (v := (1 : Int32)) C dX0_send_24 (by decide) ?_
    refine x_callV (As := [.int _, .int _]) (n := 2) C (kS_get l D cI cS aS _ 5 (by decide) _ _) (fun hh => nomatch hh) wm_X0_41 wi_X3_get we_X3_get wz_X3 wc_X3_get (by decide +kernel) rfl hP hD hS hA 11 1 rfl rfl rfl hl.1 dX0_send_25 rfl (Nat.le_of_ble_eq_true rfl) ⟨Nat.le_of_ble_eq_true rfl, Nat.le_of_ble_eq_true rfl⟩ ⟨Nat.zero_le _, Nat.zero_le _⟩ (fun H locs hP hD hS => ?_)
    refine x_nmi h (fun v13 h => ?_)
    refine x_istore_n (lv' := [(3, .int v13), (2, .int v12), (0, .ref (aS 0)), (1, .int p2)]) C dX0_send_28 rfl hl (by decide) rfl (fun ls hl => ?_)
    refine x_aload_n C dX0_send_29 rfl hl 2 rfl ?_
    refine x_get C inX2 hP 0 rfl rfl 0 (by decide) wf_X0_37 rfl dX0_send_30 ?_
    refine x_iload_n C dX0_send_33 rfl hl 0 rfl ?_
    refine x_iconst (v := (4 : Int32)) C dX0_send_34 (by decide) ?_
    refine x_callV (As := [.int _, .int _]) (n := 2) C (kS_get l D cI cS aS _ 0 (by decide) _ _) (fun hh => nomatch hh) wm_X0_41 wi_X3_get we_X3_get wz_X3 wc_X3_get (by decide +kernel) rfl hP hD hS hA 1 1 rfl rfl rfl hl.1 dX0_send_35 rfl (Nat.le_of_ble_eq_true rfl) ⟨Nat.le_of_ble_eq_true rfl, Nat.le_of_ble_eq_true rfl⟩ ⟨Nat.zero_le _, Nat.zero_le _⟩ (fun H locs hP hD hS => ?_)
    refine x_nmi h (fun v14 h => ?_)
    refine x_istore (lv' := [(4, .int v14), (3, .int v13), (2, .int v12), (0, .ref (aS 0)), (1, .int p2)]) C dX0_send_38 hl (by decide) rfl (fun ls hl => ?_)
    refine x_aload_n C dX0_send_40 rfl hl 3 rfl ?_
    refine x_get C inX2 hP 0 rfl rfl 1 (by decide) wf_X0_54 rfl dX0_send_41 ?_
    refine x_iload_n C dX0_send_44 rfl hl 1 rfl ?_
    refine x_iconst (v := (1 : Int32)) C dX0_send_45 (by decide) ?_
    refine x_iconst (v := (1 : Int32)) C dX0_send_46 (by decide) ?_
    refine x_callV (As := [.int _, .int _, .int _]) (n := 3) C (kS_add l D cI cS aS _ 1 (by decide) _ _ _) (fun hh => nomatch hh) wm_X0_57 wi_X3_add we_X3_add wz_X3 wc_X3_add (by decide +kernel) rfl hP hD hS hA 3 1 rfl rfl rfl hl.1 dX0_send_47 rfl (Nat.le_of_ble_eq_true rfl) ⟨Nat.le_of_ble_eq_true rfl, Nat.le_of_ble_eq_true rfl⟩ ⟨Nat.zero_le _, Nat.zero_le _⟩ (fun H locs hP hD hS => ?_)
    refine x_nmS (wS cI aS) h hP hD (fun S15 h hP hD => ?_)
    refine x_aload_n C dX0_send_50 rfl hl 3 rfl ?_
    refine x_get C inX2 hP 0 rfl rfl 5 (by decide) wf_X0_69 rfl dX0_send_51 ?_
    refine x_iload_n C dX0_send_54 rfl hl 2 rfl ?_
    refine x_iconst (v := (3 : Int32)) C dX0_send_55 (by decide) ?_
    refine x_iconst (v := (1 : Int32)) C dX0_send_56 (by decide) ?_
    refine x_callV (As := [.int _, .int _, .int _]) (n := 3) C (kS_add l D cI cS aS _ 5 (by decide) _ _ _) (fun hh => nomatch hh) wm_X0_57 wi_X3_add we_X3_add wz_X3 wc_X3_add (by decide +kernel) rfl hP hD hS hA 11 1 rfl rfl rfl hl.1 dX0_send_57 rfl (Nat.le_of_ble_eq_true rfl) ⟨Nat.le_of_ble_eq_true rfl, Nat.le_of_ble_eq_true rfl⟩ ⟨Nat.zero_le _, Nat.zero_le _⟩ (fun H locs hP hD hS => ?_)
    refine x_nmS (wS cI aS) h hP hD (fun S16 h hP hD => ?_)
    refine x_aload_n C dX0_send_60 rfl hl 3 rfl ?_
    refine x_get C inX2 hP 0 rfl rfl 5 (by decide) wf_X0_69 rfl dX0_send_61 ?_
    refine x_iload_n C dX0_send_64 rfl hl 2 rfl ?_
    refine x_iconst (v := (4 : Int32)) C dX0_send_65 (by decide) ?_
    refine x_iconst (v := (0 : Int32)) C dX0_send_66 (by decide) ?_
    refine x_callV (As := [.int _, .int _, .int _]) (n := 3) C (kS_put l D cI cS aS _ 5 (by decide) _ _ _) (fun hh => nomatch hh) wm_X0_66 wi_X3_put we_X3_put wz_X3 wc_X3_put (by decide +kernel) rfl hP hD hS hA 11 1 rfl rfl rfl hl.1 dX0_send_67 rfl (Nat.le_of_ble_eq_true rfl) ⟨Nat.le_of_ble_eq_true rfl, Nat.le_of_ble_eq_true rfl⟩ ⟨Nat.zero_le _, Nat.zero_le _⟩ (fun H locs hP hD hS => ?_)
    refine x_nmS (wS cI aS) h hP hD (fun S17 h hP hD => ?_)
    refine x_aload_n C dX0_send_70 rfl hl 3 rfl ?_
    refine x_get C inX2 hP 0 rfl rfl 5 (by decide) wf_X0_69 rfl dX0_send_71 ?_
    refine x_iload_n C dX0_send_74 rfl hl 2 rfl ?_
    refine x_iconst (v := (5 : Int32)) C dX0_send_75 (by decide) ?_
    refine x_aload_n C dX0_send_76 rfl hl 3 rfl ?_
    refine x_get C inX2 hP 0 rfl rfl 12 (by decide) wf_X0_47 rfl dX0_send_77 ?_
    refine x_iload C dX0_send_80 hl 0 rfl ?_
    refine x_iadd C dX0_send_82 ?_
    refine x_aload_n C dX0_send_83 rfl hl 3 rfl ?_
    refine x_get C inX2 hP 0 rfl rfl 5 (by decide) wf_X0_69 rfl dX0_send_84 ?_
    refine x_iload_n C dX0_send_87 rfl hl 2 rfl ?_
    refine x_iconst (v := (2 : Int32)) C dX0_send_88 (by decide) ?_
    refine x_callV (As := [.int _, .int _]) (n := 2) C (kS_get l D cI cS aS _ 5 (by decide) _ _) (fun hh => nomatch hh) wm_X0_41 wi_X3_get we_X3_get wz_X3 wc_X3_get (by decide +kernel) rfl hP hD hS hA 11 1 rfl rfl rfl hl.1 dX0_send_89 rfl (Nat.le_of_ble_eq_true rfl) ⟨Nat.le_of_ble_eq_true rfl, Nat.le_of_ble_eq_true rfl⟩ ⟨Nat.zero_le _, Nat.zero_le _⟩ (fun H locs hP hD hS => ?_)
    refine x_min C hl.1 wm_X0_61 wt_J9_min_7cf53 wz_J9 wc_J9_min_7cf53 (by decide) (Nat.le_of_ble_eq_true rfl) ⟨Nat.zero_le _, Nat.zero_le _⟩ dX0_send_92 ?_
    refine x_callV (As := [.int _, .int _, .int _]) (n := 3) C (kS_put l D cI cS aS _ 5 (by decide) _ _ _) (fun hh => nomatch hh) wm_X0_66 wi_X3_put we_X3_put wz_X3 wc_X3_put (by decide +kernel) rfl hP hD hS hA 11 1 rfl rfl rfl hl.1 dX0_send_95 rfl (Nat.le_of_ble_eq_true rfl) ⟨Nat.le_of_ble_eq_true rfl, Nat.le_of_ble_eq_true rfl⟩ ⟨Nat.zero_le _, Nat.zero_le _⟩ (fun H locs hP hD hS => ?_)
    refine x_nmS (wS cI aS) h hP hD (fun S18 h hP hD => ?_)
    refine x_bipush (v := (-9 : Int32)) C dX0_send_98 (by decide) ?_
    refine x_istore (lv' := [(5, .int (-9 : Int32)), (4, .int v14), (3, .int v13), (2, .int v12), (0, .ref (aS 0)), (1, .int p2)]) C dX0_send_100 hl (by decide) rfl (fun ls hl => ?_)
    refine x_aload_n C dX0_send_102 rfl hl 4 rfl ?_
    refine x_get C inX2 hP 0 rfl rfl 6 (by decide) wf_X0_82 rfl dX0_send_103 ?_
    refine x_callV (As := []) (n := 0) C (kS_size l D cI cS aS _ 6 (by decide)) (fun hh => nomatch hh) wm_X0_85 wi_X3_size we_X3_size wz_X3 wc_X3_size (by decide +kernel) rfl hP hD hS hA 13 1 rfl rfl rfl hl.1 dX0_send_106 rfl (Nat.le_of_ble_eq_true rfl) ⟨Nat.le_of_ble_eq_true rfl, Nat.le_of_ble_eq_true rfl⟩ ⟨Nat.zero_le _, Nat.zero_le _⟩ (fun H locs hP hD hS => ?_)
    refine x_aload_n C dX0_send_109 rfl hl 4 rfl ?_
    refine x_get C inX2 hP 0 rfl rfl 3 (by decide) wf_X0_88 rfl dX0_send_110 ?_
    refine x_iconst (v := (1 : Int32)) C dX0_send_113 (by decide) ?_
    refine x_iconst (v := (0 : Int32)) C dX0_send_114 (by decide) ?_
    refine x_callV (As := [.int _, .int _]) (n := 2) C (kS_get l D cI cS aS _ 3 (by decide) _ _) (fun hh => nomatch hh) wm_X0_41 wi_X3_get we_X3_get wz_X3 wc_X3_get (by decide +kernel) rfl hP hD hS hA 7 1 rfl rfl rfl hl.1 dX0_send_115 rfl (Nat.le_of_ble_eq_true rfl) ⟨Nat.le_of_ble_eq_true rfl, Nat.le_of_ble_eq_true rfl⟩ ⟨Nat.zero_le _, Nat.zero_le _⟩ (fun H locs hP hD hS => ?_)
    refine x_icmp_lt (tgt := 154) C h dX0_send_118 (by decide) (fun h => ?_) (fun h => ?_)
    · exact B154 _ _ _ h _ _ _ hP hD hS (lv_sub hl [4, 3, 0] rfl)
    · refine x_aload_n C dX0_send_121 rfl hl 4 rfl ?_
      refine x_get C inX2 hP 0 rfl rfl 4 (by decide) wf_X0_91 rfl dX0_send_122 ?_
      refine x_iconst (v := (0 : Int32)) C dX0_send_125 (by decide) ?_
      refine x_iconst (v := (0 : Int32)) C dX0_send_126 (by decide) ?_
      refine x_callV (As := [.int _, .int _]) (n := 2) C (kS_get l D cI cS aS _ 4 (by decide) _ _) (fun hh => nomatch hh) wm_X0_41 wi_X3_get we_X3_get wz_X3 wc_X3_get (by decide +kernel) rfl hP hD hS hA 9 1 rfl rfl rfl hl.1 dX0_send_127 rfl (Nat.le_of_ble_eq_true rfl) ⟨Nat.le_of_ble_eq_true rfl, Nat.le_of_ble_eq_true rfl⟩ ⟨Nat.zero_le _, Nat.zero_le _⟩ (fun H locs hP hD hS => ?_)
      refine x_if_ne (tgt := 135) C h dX0_send_130 (by decide) (fun h => ?_) (fun h => ?_)
      · refine x_aload_n C dX0_send_135 rfl hl 4 rfl ?_
        refine x_get C inX2 hP 0 rfl rfl 6 (by decide) wf_X0_82 rfl dX0_send_136 ?_
        refine x_iconst (v := (0 : Int32)) C dX0_send_139 (by decide) ?_
        refine x_iconst (v := (0 : Int32)) C dX0_send_140 (by decide) ?_
        refine x_callV (As := [.int _, .int _]) (n := 2) C (kS_get l D cI cS aS _ 6 (by decide) _ _) (fun hh => nomatch hh) wm_X0_41 wi_X3_get we_X3_get wz_X3 wc_X3_get (by decide +kernel) rfl hP hD hS hA 13 1 rfl rfl rfl hl.1 dX0_send_141 rfl (Nat.le_of_ble_eq_true rfl) ⟨Nat.le_of_ble_eq_true rfl, Nat.le_of_ble_eq_true rfl⟩ ⟨Nat.zero_le _, Nat.zero_le _⟩ (fun H locs hP hD hS => ?_)
        refine x_nmi h (fun v19 h => ?_)
        refine x_istore (lv' := [(5, .int v19), (4, .int v14), (3, .int v13), (2, .int v12), (0, .ref (aS 0)), (1, .int p2)]) C dX0_send_144 hl (by decide) rfl (fun ls hl => ?_)
        refine x_aload_n C dX0_send_146 rfl hl 4 rfl ?_
        refine x_get C inX2 hP 0 rfl rfl 6 (by decide) wf_X0_82 rfl dX0_send_147 ?_
        refine x_iconst (v := (0 : Int32)) C dX0_send_150 (by decide) ?_
        refine x_callV (As := [.int _]) (n := 1) C (kS_drop l D cI cS aS _ 6 (by decide) _) (fun hh => nomatch hh) wm_X0_94 wi_X3_drop we_X3_drop wz_X3 wc_X3_drop (by decide +kernel) rfl hP hD hS hA 13 1 rfl rfl rfl hl.1 dX0_send_151 rfl (Nat.le_of_ble_eq_true rfl) ⟨Nat.le_of_ble_eq_true rfl, Nat.le_of_ble_eq_true rfl⟩ ⟨Nat.zero_le _, Nat.zero_le _⟩ (fun H locs hP hD hS => ?_)
        refine x_nmS (wS cI aS) h hP hD (fun S20 h hP hD => ?_)
        exact B154 _ _ _ h _ _ _ hP hD hS (lv_sub hl [4, 3, 0] rfl)
      · refine x_iload_n C dX0_send_133 rfl hl 5 rfl ?_
        exact RETh dX0_send_134 h hP hD hS
  · refine x_bipush (v := (-9 : Int32)) C dX0_send_16 (by decide) ?_
    exact RETh dX0_send_18 h hP hD hS
theorem dX0_createRequests_0 : decode cX0_createRequests 0 = .ok (.iconst 0, 1) := by decide +kernel
theorem dX0_createRequests_1 : decode cX0_createRequests 1 = .ok (.istore_n 1, 1) := by decide +kernel
theorem dX0_createRequests_2 : decode cX0_createRequests 2 = .ok (.iload_n 1, 1) := by decide +kernel
theorem dX0_createRequests_3 : decode cX0_createRequests 3 = .ok (.bipush 6, 2) := by decide +kernel
theorem dX0_createRequests_5 : decode cX0_createRequests 5 = .ok (.if_icmp .ge 46, 3) := by decide +kernel
theorem dX0_createRequests_8 : decode cX0_createRequests 8 = .ok (.aload_n 0, 1) := by decide +kernel
theorem dX0_createRequests_9 : decode cX0_createRequests 9 = .ok (.iload_n 1, 1) := by decide +kernel
theorem dX0_createRequests_10 : decode cX0_createRequests 10 = .ok (.invokestatic 9, 3) := by decide +kernel
theorem dX0_createRequests_13 : decode cX0_createRequests 13 = .ok (.istore_n 2, 1) := by decide +kernel
theorem dX0_createRequests_14 : decode cX0_createRequests 14 = .ok (.iconst 0, 1) := by decide +kernel
theorem dX0_createRequests_15 : decode cX0_createRequests 15 = .ok (.istore_n 3, 1) := by decide +kernel
theorem dX0_createRequests_16 : decode cX0_createRequests 16 = .ok (.iload_n 3, 1) := by decide +kernel
theorem dX0_createRequests_17 : decode cX0_createRequests 17 = .ok (.iload_n 2, 1) := by decide +kernel
theorem dX0_createRequests_18 : decode cX0_createRequests 18 = .ok (.if_icmp .ge 27, 3) := by decide +kernel
theorem dX0_createRequests_21 : decode cX0_createRequests 21 = .ok (.aload_n 0, 1) := by decide +kernel
theorem dX0_createRequests_22 : decode cX0_createRequests 22 = .ok (.iload_n 1, 1) := by decide +kernel
theorem dX0_createRequests_23 : decode cX0_createRequests 23 = .ok (.invokestatic 15, 3) := by decide +kernel
theorem dX0_createRequests_26 : decode cX0_createRequests 26 = .ok (.istore 4, 2) := by decide +kernel
theorem dX0_createRequests_28 : decode cX0_createRequests 28 = .ok (.aload_n 0, 1) := by decide +kernel
theorem dX0_createRequests_29 : decode cX0_createRequests 29 = .ok (.aload_n 0, 1) := by decide +kernel
theorem dX0_createRequests_30 : decode cX0_createRequests 30 = .ok (.iload 4, 2) := by decide +kernel
theorem dX0_createRequests_32 : decode cX0_createRequests 32 = .ok (.invokestatic 18, 3) := by decide +kernel
theorem dX0_createRequests_35 : decode cX0_createRequests 35 = .ok (.iconst 4, 1) := by decide +kernel
theorem dX0_createRequests_36 : decode cX0_createRequests 36 = .ok (.invokestatic 21, 3) := by decide +kernel
theorem dX0_createRequests_39 : decode cX0_createRequests 39 = .ok (.iinc 3 1, 3) := by decide +kernel
theorem dX0_createRequests_42 : decode cX0_createRequests 42 = .ok (.goto (-26), 3) := by decide +kernel
theorem dX0_createRequests_45 : decode cX0_createRequests 45 = .ok (.iinc 1 1, 3) := by decide +kernel
theorem dX0_createRequests_48 : decode cX0_createRequests 48 = .ok (.goto (-46), 3) := by decide +kernel
theorem dX0_createRequests_51 : decode cX0_createRequests 51 = .ok (.return_, 1) := by decide +kernel
def bfX0_createRequests_16  (K2 : Int32 × (StS) → Option (StS)) (K16 : Int32 × Int32 × Int32 × (StS) → Option (StS)) (x : Int32 × Int32 × Int32 × (StS)) : Option (StS) :=
  match x with
  | (x1, x2, x3, S) => (if x2 ≤ x3 then K2 ((x1 + (1 : Int32)), S) else ob (fX0_create x1 S) fun u5 => ob (fX0_send u5.1 u5.2) fun u6 => ob (fX0_fail u6.1 (4 : Int32) u6.2) fun u7 => K16 (x1, x2, (x3 + (1 : Int32)), u7))
def bfX0_createRequests_2  (K2 : Int32 × (StS) → Option (StS)) (x : Int32 × (StS)) : Option (StS) :=
  match x with
  | (x1, S) => (if (6 : Int32) ≤ x1 then some S else ob (fX0_births x1 S) fun u8 => iter (bfX0_createRequests_16  K2) FU (x1, u8, (0 : Int32), S))
def fX0_createRequests  (S : StS) : Option (StS) :=
  iter (bfX0_createRequests_2) FU ((0 : Int32), S)
set_option maxHeartbeats 4000000 in
set_option maxRecDepth 100000 in
theorem kX0_createRequests (l : Launch) (D : va_G) (cI cS : ClassId) (aS : Nat → Nat)  (S : StS) {q : StS} (h : fX0_createRequests  S = some q) : Mc l D (tyL cI cS) false yX0_createRequests cX0_createRequests 5 none 6 [.ref (aS 0)] (wS cI aS S) none (wS cI aS q) := by
  refine Mc_of RX0 (by decide +kernel) rfl wc_X0_createRequests (Nat.le_of_ble_eq_true rfl) ?_
  intro p e s m args below meth c A Q ls C hA hz hP hD hS hl RET
  have RETh : ∀ {pc : Nat} {ls : Array Slot} {H : Heap} {locs : List Loc} {S1 : StS}, decode cX0_createRequests pc = .ok (.return_, 1) → some S1 = some q → va_P D vwCl (wS cI aS S1) H → va_D A (wS cI aS S1) → va_S A s.heap H locs → W p l e (rmL 6) s m args below meth c H locs 0 0 Q (F0 m pc ls []) := by
    intro pc ls H locs S1 hd h hP hD hS; cases h; exact RET (x_vret C hd) hP hD hS
  have B16 : ∀ (K2 : Int32 × (StS) → Option (StS)) (ih2 : ∀ x, K2 x = some q → (match x with | (x1, S) => ∀ (H : Heap) (locs : List Loc) (ls : Array Slot), va_P D vwCl (wS cI aS S) H → va_D A (wS cI aS S) → va_S A s.heap H locs → lv_has ls 5 [(0, .ref (aS 0)), (1, .int x1)] → W p l e (rmL 6) s m args below meth c H locs 0 0 Q (F0 m 2 ls []))) (n : Nat) (x : Int32 × Int32 × Int32 × (StS)), iter (bfX0_createRequests_16 K2) n x = some q → (match x with | (x1, x2, x3, S) => ∀ (H : Heap) (locs : List Loc) (ls : Array Slot), va_P D vwCl (wS cI aS S) H → va_D A (wS cI aS S) → va_S A s.heap H locs → lv_has ls 5 [(0, .ref (aS 0)), (1, .int x1), (2, .int x2), (3, .int x3)] → W p l e (rmL 6) s m args below meth c H locs 0 0 Q (F0 m 16 ls [])) := by
    intro K2 ih2
    refine iter_ind (fun x : Int32 × Int32 × Int32 × (StS) => (match x with | (x1, x2, x3, S) => ∀ (H : Heap) (locs : List Loc) (ls : Array Slot), va_P D vwCl (wS cI aS S) H → va_D A (wS cI aS S) → va_S A s.heap H locs → lv_has ls 5 [(0, .ref (aS 0)), (1, .int x1), (2, .int x2), (3, .int x3)] → W p l e (rmL 6) s m args below meth c H locs 0 0 Q (F0 m 16 ls []))) ?_
    intro K16 ih16 x h
    obtain ⟨x1, x2, x3, S⟩ := x
    intro H locs ls hP hD hS hl
    refine x_iload_n C dX0_createRequests_16 rfl hl 3 rfl ?_
    refine x_iload_n C dX0_createRequests_17 rfl hl 2 rfl ?_
    refine x_icmp_ge (tgt := 45) C h dX0_createRequests_18 (by decide) (fun h => ?_) (fun h => ?_)
    · refine x_iinc (v := (x1 + (1 : Int32))) (lv' := [(1, .int (x1 + (1 : Int32))), (0, .ref (aS 0)), (2, .int x2), (3, .int x3)]) C dX0_createRequests_45 hl (k := 1) rfl rfl (by decide) rfl (fun ls hl => ?_)
      refine x_goto (tgt := 2) C dX0_createRequests_48 (by decide) ?_
      exact ih2 _ h _ _ _ hP hD hS (lv_sub hl [1, 0] rfl)
    · refine x_aload_n C dX0_createRequests_21 rfl hl 0 rfl ?_
      refine x_iload_n C dX0_createRequests_22 rfl hl 1 rfl ?_
      obtain ⟨u5, hu5, h⟩ := ob_some h
      refine x_callS (As := [.ref _, .int _]) (n := 2) C (kX0_create l D cI cS aS _ _ hu5) (fun hh => nomatch hh) wm_X0_15 wt_X0_create wz_X0 wc_X0_create (by decide +kernel) rfl hP hD hS hA hl.1 dX0_createRequests_23 rfl (Nat.le_of_ble_eq_true rfl) ⟨Nat.le_of_ble_eq_true rfl, Nat.le_of_ble_eq_true rfl⟩ ⟨Nat.zero_le _, Nat.zero_le _⟩ (fun H locs hP hD hS => ?_)
      refine x_istore (lv' := [(4, .int u5.1), (0, .ref (aS 0)), (1, .int x1), (2, .int x2), (3, .int x3)]) C dX0_createRequests_26 hl (by decide) rfl (fun ls hl => ?_)
      refine x_aload_n C dX0_createRequests_28 rfl hl 1 rfl ?_
      refine x_aload_n C dX0_createRequests_29 rfl hl 1 rfl ?_
      refine x_iload C dX0_createRequests_30 hl 0 rfl ?_
      obtain ⟨u6, hu6, h⟩ := ob_some h
      refine x_callS (As := [.ref _, .int _]) (n := 2) C (kX0_send l D cI cS aS _ _ hu6) (fun hh => nomatch hh) wm_X0_18 wt_X0_send wz_X0 wc_X0_send (by decide +kernel) rfl hP hD hS hA hl.1 dX0_createRequests_32 rfl (Nat.le_of_ble_eq_true rfl) ⟨Nat.le_of_ble_eq_true rfl, Nat.le_of_ble_eq_true rfl⟩ ⟨Nat.zero_le _, Nat.zero_le _⟩ (fun H locs hP hD hS => ?_)
      refine x_iconst (v := (4 : Int32)) C dX0_createRequests_35 (by decide) ?_
      obtain ⟨u7, hu7, h⟩ := ob_some h
      refine x_callS (As := [.ref _, .int _, .int _]) (n := 3) C (kX0_fail l D cI cS aS _ _ _ hu7) (fun hh => nomatch hh) wm_X0_21 wt_X0_fail wz_X0 wc_X0_fail (by decide +kernel) rfl hP hD hS hA hl.1 dX0_createRequests_36 rfl (Nat.le_of_ble_eq_true rfl) ⟨Nat.le_of_ble_eq_true rfl, Nat.le_of_ble_eq_true rfl⟩ ⟨Nat.zero_le _, Nat.zero_le _⟩ (fun H locs hP hD hS => ?_)
      refine x_iinc (v := (x3 + (1 : Int32))) (lv' := [(3, .int (x3 + (1 : Int32))), (4, .int u5.1), (0, .ref (aS 0)), (1, .int x1), (2, .int x2)]) C dX0_createRequests_39 hl (k := 4) rfl rfl (by decide) rfl (fun ls hl => ?_)
      refine x_goto (tgt := 16) C dX0_createRequests_42 (by decide) ?_
      exact ih16 _ h _ _ _ hP hD hS (lv_sub hl [2, 3, 4, 0] rfl)
  have B2 : ∀ (n : Nat) (x : Int32 × (StS)), iter (bfX0_createRequests_2) n x = some q → (match x with | (x1, S) => ∀ (H : Heap) (locs : List Loc) (ls : Array Slot), va_P D vwCl (wS cI aS S) H → va_D A (wS cI aS S) → va_S A s.heap H locs → lv_has ls 5 [(0, .ref (aS 0)), (1, .int x1)] → W p l e (rmL 6) s m args below meth c H locs 0 0 Q (F0 m 2 ls [])) := by
    refine iter_ind (fun x : Int32 × (StS) => (match x with | (x1, S) => ∀ (H : Heap) (locs : List Loc) (ls : Array Slot), va_P D vwCl (wS cI aS S) H → va_D A (wS cI aS S) → va_S A s.heap H locs → lv_has ls 5 [(0, .ref (aS 0)), (1, .int x1)] → W p l e (rmL 6) s m args below meth c H locs 0 0 Q (F0 m 2 ls []))) ?_
    intro K2 ih2 x h
    obtain ⟨x1, S⟩ := x
    intro H locs ls hP hD hS hl
    refine x_iload_n C dX0_createRequests_2 rfl hl 1 rfl ?_
    refine x_bipush (v := (6 : Int32)) C dX0_createRequests_3 (by decide) ?_
    refine x_icmp_ge (tgt := 51) C h dX0_createRequests_5 (by decide) (fun h => ?_) (fun h => ?_)
    · exact RETh dX0_createRequests_51 h hP hD hS
    · refine x_aload_n C dX0_createRequests_8 rfl hl 0 rfl ?_
      refine x_iload_n C dX0_createRequests_9 rfl hl 1 rfl ?_
      obtain ⟨u8, hu8, h⟩ := ob_some h
      refine x_callS (As := [.ref _, .int _]) (n := 2) C (kX0_births l D cI cS aS _ _ hu8) (fun hh => nomatch hh) wm_X0_9 wt_X0_births wz_X0 wc_X0_births (by decide +kernel) rfl hP hD hS hA hl.1 dX0_createRequests_10 rfl (Nat.le_of_ble_eq_true rfl) ⟨Nat.le_of_ble_eq_true rfl, Nat.le_of_ble_eq_true rfl⟩ ⟨Nat.zero_le _, Nat.zero_le _⟩ (fun H locs hP hD hS => ?_)
      refine x_istore_n (lv' := [(2, .int u8), (0, .ref (aS 0)), (1, .int x1)]) C dX0_createRequests_13 rfl hl (by decide) rfl (fun ls hl => ?_)
      refine x_iconst (v := (0 : Int32)) C dX0_createRequests_14 (by decide) ?_
      refine x_istore_n (lv' := [(3, .int (0 : Int32)), (2, .int u8), (0, .ref (aS 0)), (1, .int x1)]) C dX0_createRequests_15 rfl hl (by decide) rfl (fun ls hl => ?_)
      exact B16 K2 ih2 FU _ h _ _ _ hP hD hS (lv_sub hl [2, 3, 1, 0] rfl)
  refine x_iconst (v := (0 : Int32)) C dX0_createRequests_0 (by decide) ?_
  refine x_istore_n (lv' := [(1, .int (0 : Int32)), (0, .ref (aS 0))]) C dX0_createRequests_1 rfl hl (by decide) rfl (fun ls hl => ?_)
  exact B2 FU _ h _ _ _ hP hD hS (lv_sub hl [1, 0] rfl)
theorem dX0_sendWaiting_0 : decode cX0_sendWaiting 0 = .ok (.bipush (-9), 2) := by decide +kernel
theorem dX0_sendWaiting_2 : decode cX0_sendWaiting 2 = .ok (.istore_n 1, 1) := by decide +kernel
theorem dX0_sendWaiting_3 : decode cX0_sendWaiting 3 = .ok (.iconst 0, 1) := by decide +kernel
theorem dX0_sendWaiting_4 : decode cX0_sendWaiting 4 = .ok (.istore_n 2, 1) := by decide +kernel
theorem dX0_sendWaiting_5 : decode cX0_sendWaiting 5 = .ok (.iload_n 2, 1) := by decide +kernel
theorem dX0_sendWaiting_6 : decode cX0_sendWaiting 6 = .ok (.bipush 16, 2) := by decide +kernel
theorem dX0_sendWaiting_8 : decode cX0_sendWaiting 8 = .ok (.if_icmp .ge 33, 3) := by decide +kernel
theorem dX0_sendWaiting_11 : decode cX0_sendWaiting 11 = .ok (.aload_n 0, 1) := by decide +kernel
theorem dX0_sendWaiting_12 : decode cX0_sendWaiting 12 = .ok (.iload_n 1, 1) := by decide +kernel
theorem dX0_sendWaiting_13 : decode cX0_sendWaiting 13 = .ok (.iconst 1, 1) := by decide +kernel
theorem dX0_sendWaiting_14 : decode cX0_sendWaiting 14 = .ok (.invokevirtual 25, 3) := by decide +kernel
theorem dX0_sendWaiting_17 : decode cX0_sendWaiting 17 = .ok (.istore_n 1, 1) := by decide +kernel
theorem dX0_sendWaiting_18 : decode cX0_sendWaiting 18 = .ok (.iload_n 1, 1) := by decide +kernel
theorem dX0_sendWaiting_19 : decode cX0_sendWaiting 19 = .ok (.bipush (-9), 2) := by decide +kernel
theorem dX0_sendWaiting_21 : decode cX0_sendWaiting 21 = .ok (.if_icmp .ne 4, 3) := by decide +kernel
theorem dX0_sendWaiting_24 : decode cX0_sendWaiting 24 = .ok (.return_, 1) := by decide +kernel
theorem dX0_sendWaiting_25 : decode cX0_sendWaiting 25 = .ok (.aload_n 0, 1) := by decide +kernel
theorem dX0_sendWaiting_26 : decode cX0_sendWaiting 26 = .ok (.aload_n 0, 1) := by decide +kernel
theorem dX0_sendWaiting_27 : decode cX0_sendWaiting 27 = .ok (.iload_n 1, 1) := by decide +kernel
theorem dX0_sendWaiting_28 : decode cX0_sendWaiting 28 = .ok (.invokestatic 18, 3) := by decide +kernel
theorem dX0_sendWaiting_31 : decode cX0_sendWaiting 31 = .ok (.iconst 4, 1) := by decide +kernel
theorem dX0_sendWaiting_32 : decode cX0_sendWaiting 32 = .ok (.invokestatic 21, 3) := by decide +kernel
theorem dX0_sendWaiting_35 : decode cX0_sendWaiting 35 = .ok (.iinc 2 1, 3) := by decide +kernel
theorem dX0_sendWaiting_38 : decode cX0_sendWaiting 38 = .ok (.goto (-33), 3) := by decide +kernel
theorem dX0_sendWaiting_41 : decode cX0_sendWaiting 41 = .ok (.return_, 1) := by decide +kernel
def bfX0_sendWaiting_5  (K5 : Int32 × Int32 × (StS) → Option (StS)) (x : Int32 × Int32 × (StS)) : Option (StS) :=
  match x with
  | (x1, x2, S) => (if (16 : Int32) ≤ x2 then some S else ob (fX2_nextDue x1 (1 : Int32) S) fun u4 => (if u4 = (-9 : Int32) then some S else ob (fX0_send u4 S) fun u5 => ob (fX0_fail u5.1 (4 : Int32) u5.2) fun u6 => K5 (u4, (x2 + (1 : Int32)), u6)))
def fX0_sendWaiting  (S : StS) : Option (StS) :=
  iter (bfX0_sendWaiting_5) FU ((-9 : Int32), (0 : Int32), S)
set_option maxHeartbeats 4000000 in
set_option maxRecDepth 100000 in
theorem kX0_sendWaiting (l : Launch) (D : va_G) (cI cS : ClassId) (aS : Nat → Nat)  (S : StS) {q : StS} (h : fX0_sendWaiting  S = some q) : Mc l D (tyL cI cS) false yX0_sendWaiting cX0_sendWaiting 3 none 6 [.ref (aS 0)] (wS cI aS S) none (wS cI aS q) := by
  refine Mc_of RX0 (by decide +kernel) rfl wc_X0_sendWaiting (Nat.le_of_ble_eq_true rfl) ?_
  intro p e s m args below meth c A Q ls C hA hz hP hD hS hl RET
  have RETh : ∀ {pc : Nat} {ls : Array Slot} {H : Heap} {locs : List Loc} {S1 : StS}, decode cX0_sendWaiting pc = .ok (.return_, 1) → some S1 = some q → va_P D vwCl (wS cI aS S1) H → va_D A (wS cI aS S1) → va_S A s.heap H locs → W p l e (rmL 6) s m args below meth c H locs 0 0 Q (F0 m pc ls []) := by
    intro pc ls H locs S1 hd h hP hD hS; cases h; exact RET (x_vret C hd) hP hD hS
  have B5 : ∀ (n : Nat) (x : Int32 × Int32 × (StS)), iter (bfX0_sendWaiting_5) n x = some q → (match x with | (x1, x2, S) => ∀ (H : Heap) (locs : List Loc) (ls : Array Slot), va_P D vwCl (wS cI aS S) H → va_D A (wS cI aS S) → va_S A s.heap H locs → lv_has ls 3 [(0, .ref (aS 0)), (1, .int x1), (2, .int x2)] → W p l e (rmL 6) s m args below meth c H locs 0 0 Q (F0 m 5 ls [])) := by
    refine iter_ind (fun x : Int32 × Int32 × (StS) => (match x with | (x1, x2, S) => ∀ (H : Heap) (locs : List Loc) (ls : Array Slot), va_P D vwCl (wS cI aS S) H → va_D A (wS cI aS S) → va_S A s.heap H locs → lv_has ls 3 [(0, .ref (aS 0)), (1, .int x1), (2, .int x2)] → W p l e (rmL 6) s m args below meth c H locs 0 0 Q (F0 m 5 ls []))) ?_
    intro K5 ih5 x h
    obtain ⟨x1, x2, S⟩ := x
    intro H locs ls hP hD hS hl
    refine x_iload_n C dX0_sendWaiting_5 rfl hl 2 rfl ?_
    refine x_bipush (v := (16 : Int32)) C dX0_sendWaiting_6 (by decide) ?_
    refine x_icmp_ge (tgt := 41) C h dX0_sendWaiting_8 (by decide) (fun h => ?_) (fun h => ?_)
    · exact RETh dX0_sendWaiting_41 h hP hD hS
    · refine x_aload_n C dX0_sendWaiting_11 rfl hl 0 rfl ?_
      refine x_iload_n C dX0_sendWaiting_12 rfl hl 1 rfl ?_
      refine x_iconst (v := (1 : Int32)) C dX0_sendWaiting_13 (by decide) ?_
      obtain ⟨u4, hu4, h⟩ := ob_some h
      refine x_callV (As := [.int _, .int _]) (n := 2) C (kX2_nextDue l D cI cS aS _ _ _ hu4) (fun hh => nomatch hh) wm_X0_25 wi_X2_nextDue we_X2_nextDue wz_X2 wc_X2_nextDue (by decide +kernel) rfl hP hD hS hA 0 0 rfl rfl rfl hl.1 dX0_sendWaiting_14 rfl (Nat.le_of_ble_eq_true rfl) ⟨Nat.le_of_ble_eq_true rfl, Nat.le_of_ble_eq_true rfl⟩ ⟨Nat.zero_le _, Nat.zero_le _⟩ (fun H locs hP hD hS => ?_)
      refine x_istore_n (lv' := [(1, .int u4), (0, .ref (aS 0)), (2, .int x2)]) C dX0_sendWaiting_17 rfl hl (by decide) rfl (fun ls hl => ?_)
      refine x_iload_n C dX0_sendWaiting_18 rfl hl 0 rfl ?_
      refine x_bipush (v := (-9 : Int32)) C dX0_sendWaiting_19 (by decide) ?_
      refine x_icmp_ne (tgt := 25) C h dX0_sendWaiting_21 (by decide) (fun h => ?_) (fun h => ?_)
      · refine x_aload_n C dX0_sendWaiting_25 rfl hl 1 rfl ?_
        refine x_aload_n C dX0_sendWaiting_26 rfl hl 1 rfl ?_
        refine x_iload_n C dX0_sendWaiting_27 rfl hl 0 rfl ?_
        obtain ⟨u5, hu5, h⟩ := ob_some h
        refine x_callS (As := [.ref _, .int _]) (n := 2) C (kX0_send l D cI cS aS _ _ hu5) (fun hh => nomatch hh) wm_X0_18 wt_X0_send wz_X0 wc_X0_send (by decide +kernel) rfl hP hD hS hA hl.1 dX0_sendWaiting_28 rfl (Nat.le_of_ble_eq_true rfl) ⟨Nat.le_of_ble_eq_true rfl, Nat.le_of_ble_eq_true rfl⟩ ⟨Nat.zero_le _, Nat.zero_le _⟩ (fun H locs hP hD hS => ?_)
        refine x_iconst (v := (4 : Int32)) C dX0_sendWaiting_31 (by decide) ?_
        obtain ⟨u6, hu6, h⟩ := ob_some h
        refine x_callS (As := [.ref _, .int _, .int _]) (n := 3) C (kX0_fail l D cI cS aS _ _ _ hu6) (fun hh => nomatch hh) wm_X0_21 wt_X0_fail wz_X0 wc_X0_fail (by decide +kernel) rfl hP hD hS hA hl.1 dX0_sendWaiting_32 rfl (Nat.le_of_ble_eq_true rfl) ⟨Nat.le_of_ble_eq_true rfl, Nat.le_of_ble_eq_true rfl⟩ ⟨Nat.zero_le _, Nat.zero_le _⟩ (fun H locs hP hD hS => ?_)
        refine x_iinc (v := (x2 + (1 : Int32))) (lv' := [(2, .int (x2 + (1 : Int32))), (1, .int u4), (0, .ref (aS 0))]) C dX0_sendWaiting_35 hl (k := 2) rfl rfl (by decide) rfl (fun ls hl => ?_)
        refine x_goto (tgt := 5) C dX0_sendWaiting_38 (by decide) ?_
        exact ih5 _ h _ _ _ hP hD hS (lv_sub hl [2, 1, 0] rfl)
      · exact RETh dX0_sendWaiting_24 h hP hD hS
  refine x_bipush (v := (-9 : Int32)) C dX0_sendWaiting_0 (by decide) ?_
  refine x_istore_n (lv' := [(1, .int (-9 : Int32)), (0, .ref (aS 0))]) C dX0_sendWaiting_2 rfl hl (by decide) rfl (fun ls hl => ?_)
  refine x_iconst (v := (0 : Int32)) C dX0_sendWaiting_3 (by decide) ?_
  refine x_istore_n (lv' := [(2, .int (0 : Int32)), (1, .int (-9 : Int32)), (0, .ref (aS 0))]) C dX0_sendWaiting_4 rfl hl (by decide) rfl (fun ls hl => ?_)
  exact B5 FU _ h _ _ _ hP hD hS (lv_sub hl [2, 1, 0] rfl)
theorem dX1_answer_0 : decode cX1_answer 0 = .ok (.aload_n 0, 1) := by decide +kernel
theorem dX1_answer_1 : decode cX1_answer 1 = .ok (.getfield 9, 3) := by decide +kernel
theorem dX1_answer_4 : decode cX1_answer 4 = .ok (.iconst 0, 1) := by decide +kernel
theorem dX1_answer_5 : decode cX1_answer 5 = .ok (.aload_n 0, 1) := by decide +kernel
theorem dX1_answer_6 : decode cX1_answer 6 = .ok (.getfield 59, 3) := by decide +kernel
theorem dX1_answer_9 : decode cX1_answer 9 = .ok (.iload_n 1, 1) := by decide +kernel
theorem dX1_answer_10 : decode cX1_answer 10 = .ok (.iconst 0, 1) := by decide +kernel
theorem dX1_answer_11 : decode cX1_answer 11 = .ok (.invokevirtual 15, 3) := by decide +kernel
theorem dX1_answer_14 : decode cX1_answer 14 = .ok (.invokevirtual 114, 3) := by decide +kernel
theorem dX1_answer_17 : decode cX1_answer 17 = .ok (.istore_n 2, 1) := by decide +kernel
theorem dX1_answer_18 : decode cX1_answer 18 = .ok (.iload_n 2, 1) := by decide +kernel
theorem dX1_answer_19 : decode cX1_answer 19 = .ok (.bipush (-9), 2) := by decide +kernel
theorem dX1_answer_21 : decode cX1_answer 21 = .ok (.if_icmp .ne 10, 3) := by decide +kernel
theorem dX1_answer_24 : decode cX1_answer 24 = .ok (.aload_n 0, 1) := by decide +kernel
theorem dX1_answer_25 : decode cX1_answer 25 = .ok (.iload_n 1, 1) := by decide +kernel
theorem dX1_answer_26 : decode cX1_answer 26 = .ok (.invokestatic 78, 3) := by decide +kernel
theorem dX1_answer_29 : decode cX1_answer 29 = .ok (.pop, 1) := by decide +kernel
theorem dX1_answer_30 : decode cX1_answer 30 = .ok (.return_, 1) := by decide +kernel
theorem dX1_answer_31 : decode cX1_answer 31 = .ok (.aload_n 0, 1) := by decide +kernel
theorem dX1_answer_32 : decode cX1_answer 32 = .ok (.getfield 9, 3) := by decide +kernel
theorem dX1_answer_35 : decode cX1_answer 35 = .ok (.iload_n 2, 1) := by decide +kernel
theorem dX1_answer_36 : decode cX1_answer 36 = .ok (.iconst 1, 1) := by decide +kernel
theorem dX1_answer_37 : decode cX1_answer 37 = .ok (.invokevirtual 15, 3) := by decide +kernel
theorem dX1_answer_40 : decode cX1_answer 40 = .ok (.istore_n 3, 1) := by decide +kernel
theorem dX1_answer_41 : decode cX1_answer 41 = .ok (.aload_n 0, 1) := by decide +kernel
theorem dX1_answer_42 : decode cX1_answer 42 = .ok (.dup, 1) := by decide +kernel
theorem dX1_answer_43 : decode cX1_answer 43 = .ok (.getfield 117, 3) := by decide +kernel
theorem dX1_answer_46 : decode cX1_answer 46 = .ok (.aload_n 0, 1) := by decide +kernel
theorem dX1_answer_47 : decode cX1_answer 47 = .ok (.getfield 59, 3) := by decide +kernel
theorem dX1_answer_50 : decode cX1_answer 50 = .ok (.iload_n 1, 1) := by decide +kernel
theorem dX1_answer_51 : decode cX1_answer 51 = .ok (.iconst 4, 1) := by decide +kernel
theorem dX1_answer_52 : decode cX1_answer 52 = .ok (.invokevirtual 15, 3) := by decide +kernel
theorem dX1_answer_55 : decode cX1_answer 55 = .ok (.iadd, 1) := by decide +kernel
theorem dX1_answer_56 : decode cX1_answer 56 = .ok (.putfield 117, 3) := by decide +kernel
theorem dX1_answer_59 : decode cX1_answer 59 = .ok (.aload_n 0, 1) := by decide +kernel
theorem dX1_answer_60 : decode cX1_answer 60 = .ok (.getfield 120, 3) := by decide +kernel
theorem dX1_answer_63 : decode cX1_answer 63 = .ok (.iload_n 3, 1) := by decide +kernel
theorem dX1_answer_64 : decode cX1_answer 64 = .ok (.iconst 2, 1) := by decide +kernel
theorem dX1_answer_65 : decode cX1_answer 65 = .ok (.iconst 1, 1) := by decide +kernel
theorem dX1_answer_66 : decode cX1_answer 66 = .ok (.invokevirtual 104, 3) := by decide +kernel
theorem dX1_answer_69 : decode cX1_answer 69 = .ok (.aload_n 0, 1) := by decide +kernel
theorem dX1_answer_70 : decode cX1_answer 70 = .ok (.getfield 120, 3) := by decide +kernel
theorem dX1_answer_73 : decode cX1_answer 73 = .ok (.iload_n 3, 1) := by decide +kernel
theorem dX1_answer_74 : decode cX1_answer 74 = .ok (.bipush 7, 2) := by decide +kernel
theorem dX1_answer_76 : decode cX1_answer 76 = .ok (.aload_n 0, 1) := by decide +kernel
theorem dX1_answer_77 : decode cX1_answer 77 = .ok (.getfield 9, 3) := by decide +kernel
theorem dX1_answer_80 : decode cX1_answer 80 = .ok (.iload_n 2, 1) := by decide +kernel
theorem dX1_answer_81 : decode cX1_answer 81 = .ok (.iconst 3, 1) := by decide +kernel
theorem dX1_answer_82 : decode cX1_answer 82 = .ok (.invokevirtual 15, 3) := by decide +kernel
theorem dX1_answer_85 : decode cX1_answer 85 = .ok (.iadd, 1) := by decide +kernel
theorem dX1_answer_86 : decode cX1_answer 86 = .ok (.iconst 1, 1) := by decide +kernel
theorem dX1_answer_87 : decode cX1_answer 87 = .ok (.invokevirtual 104, 3) := by decide +kernel
theorem dX1_answer_90 : decode cX1_answer 90 = .ok (.aload_n 0, 1) := by decide +kernel
theorem dX1_answer_91 : decode cX1_answer 91 = .ok (.getfield 9, 3) := by decide +kernel
theorem dX1_answer_94 : decode cX1_answer 94 = .ok (.iload_n 2, 1) := by decide +kernel
theorem dX1_answer_95 : decode cX1_answer 95 = .ok (.invokevirtual 70, 3) := by decide +kernel
theorem dX1_answer_98 : decode cX1_answer 98 = .ok (.aload_n 0, 1) := by decide +kernel
theorem dX1_answer_99 : decode cX1_answer 99 = .ok (.getfield 59, 3) := by decide +kernel
theorem dX1_answer_102 : decode cX1_answer 102 = .ok (.iload_n 1, 1) := by decide +kernel
theorem dX1_answer_103 : decode cX1_answer 103 = .ok (.iconst 0, 1) := by decide +kernel
theorem dX1_answer_104 : decode cX1_answer 104 = .ok (.bipush (-9), 2) := by decide +kernel
theorem dX1_answer_106 : decode cX1_answer 106 = .ok (.invokevirtual 28, 3) := by decide +kernel
theorem dX1_answer_109 : decode cX1_answer 109 = .ok (.return_, 1) := by decide +kernel
def fX1_answer (p2 : Int32) (S : StS) : Option (StS) :=
  nm ((sfind 5 S (0 : Int32) ((sget 7 S p2 (0 : Int32))))) fun v9 => (if v9 = (-9 : Int32) then ob (fX1_waste p2 S) fun u16 => some u16.2 else nm ((sget 5 S v9 (1 : Int32))) fun v10 => nm (S.1, upd S.2 15 ((S.2 15) + (sget 7 S p2 (4 : Int32)))) fun S11 => nm (sadd 1 S11 v10 (2 : Int32) (1 : Int32)) fun S12 => nm (sadd 1 S12 v10 (((7 : Int32) + (sget 5 S12 v9 (3 : Int32)))) (1 : Int32)) fun S13 => nm (sdrop 5 S13 v9) fun S14 => nm (sput 7 S14 p2 (0 : Int32) (-9 : Int32)) fun S15 => some S15)
set_option maxHeartbeats 4000000 in
set_option maxRecDepth 100000 in
theorem kX1_answer (l : Launch) (D : va_G) (cI cS : ClassId) (aS : Nat → Nat) (p2 : Int32) (S : StS) {q : StS} (h : fX1_answer p2 S = some q) : Mc l D (tyL cI cS) false yX1_answer cX1_answer 4 none 3 [.ref (aS 0), .int p2] (wS cI aS S) none (wS cI aS q) := by
  refine Mc_of RX1 (by decide +kernel) rfl wc_X1_answer (Nat.le_of_ble_eq_true rfl) ?_
  intro p e s m args below meth c A Q ls C hA hz hP hD hS hl RET
  have RETh : ∀ {pc : Nat} {ls : Array Slot} {H : Heap} {locs : List Loc} {S1 : StS}, decode cX1_answer pc = .ok (.return_, 1) → some S1 = some q → va_P D vwCl (wS cI aS S1) H → va_D A (wS cI aS S1) → va_S A s.heap H locs → W p l e (rmL 3) s m args below meth c H locs 0 0 Q (F0 m pc ls []) := by
    intro pc ls H locs S1 hd h hP hD hS; cases h; exact RET (x_vret C hd) hP hD hS
  refine x_aload_n C dX1_answer_0 rfl hl 0 rfl ?_
  refine x_get C inX2 hP 0 rfl rfl 5 (by decide) wf_X1_9 rfl dX1_answer_1 ?_
  refine x_iconst (v := (0 : Int32)) C dX1_answer_4 (by decide) ?_
  refine x_aload_n C dX1_answer_5 rfl hl 0 rfl ?_
  refine x_get C inX2 hP 0 rfl rfl 7 (by decide) wf_X1_59 rfl dX1_answer_6 ?_
  refine x_iload_n C dX1_answer_9 rfl hl 1 rfl ?_
  refine x_iconst (v := (0 : Int32)) C dX1_answer_10 (by decide) ?_
  refine x_callV (As := [.int _, .int _]) (n := 2) C (kS_get l D cI cS aS _ 7 (by decide) _ _) (fun hh => nomatch hh) wm_X1_15 wi_X3_get we_X3_get wz_X3 wc_X3_get (by decide +kernel) rfl hP hD hS hA 15 1 rfl rfl rfl hl.1 dX1_answer_11 rfl (Nat.le_of_ble_eq_true rfl) ⟨Nat.le_of_ble_eq_true rfl, Nat.le_of_ble_eq_true rfl⟩ ⟨Nat.zero_le _, Nat.zero_le _⟩ (fun H locs hP hD hS => ?_)
  refine x_callV (As := [.int _, .int _]) (n := 2) C (kS_find l D cI cS aS _ 5 (by decide) _ _) (fun hh => nomatch hh) wm_X1_114 wi_X3_find we_X3_find wz_X3 wc_X3_find (by decide +kernel) rfl hP hD hS hA 11 1 rfl rfl rfl hl.1 dX1_answer_14 rfl (Nat.le_of_ble_eq_true rfl) ⟨Nat.le_of_ble_eq_true rfl, Nat.le_of_ble_eq_true rfl⟩ ⟨Nat.zero_le _, Nat.zero_le _⟩ (fun H locs hP hD hS => ?_)
  refine x_nmi h (fun v9 h => ?_)
  refine x_istore_n (lv' := [(2, .int v9), (0, .ref (aS 0)), (1, .int p2)]) C dX1_answer_17 rfl hl (by decide) rfl (fun ls hl => ?_)
  refine x_iload_n C dX1_answer_18 rfl hl 0 rfl ?_
  refine x_bipush (v := (-9 : Int32)) C dX1_answer_19 (by decide) ?_
  refine x_icmp_ne (tgt := 31) C h dX1_answer_21 (by decide) (fun h => ?_) (fun h => ?_)
  · refine x_aload_n C dX1_answer_31 rfl hl 1 rfl ?_
    refine x_get C inX2 hP 0 rfl rfl 5 (by decide) wf_X1_9 rfl dX1_answer_32 ?_
    refine x_iload_n C dX1_answer_35 rfl hl 0 rfl ?_
    refine x_iconst (v := (1 : Int32)) C dX1_answer_36 (by decide) ?_
    refine x_callV (As := [.int _, .int _]) (n := 2) C (kS_get l D cI cS aS _ 5 (by decide) _ _) (fun hh => nomatch hh) wm_X1_15 wi_X3_get we_X3_get wz_X3 wc_X3_get (by decide +kernel) rfl hP hD hS hA 11 1 rfl rfl rfl hl.1 dX1_answer_37 rfl (Nat.le_of_ble_eq_true rfl) ⟨Nat.le_of_ble_eq_true rfl, Nat.le_of_ble_eq_true rfl⟩ ⟨Nat.zero_le _, Nat.zero_le _⟩ (fun H locs hP hD hS => ?_)
    refine x_nmi h (fun v10 h => ?_)
    refine x_istore_n (lv' := [(3, .int v10), (2, .int v9), (0, .ref (aS 0)), (1, .int p2)]) C dX1_answer_40 rfl hl (by decide) rfl (fun ls hl => ?_)
    refine x_aload_n C dX1_answer_41 rfl hl 2 rfl ?_
    refine x_dup C dX1_answer_42 rfl ?_
    refine x_get C inX2 hP 0 rfl rfl 15 (by decide) wf_X1_117 rfl dX1_answer_43 ?_
    refine x_aload_n C dX1_answer_46 rfl hl 2 rfl ?_
    refine x_get C inX2 hP 0 rfl rfl 7 (by decide) wf_X1_59 rfl dX1_answer_47 ?_
    refine x_iload_n C dX1_answer_50 rfl hl 3 rfl ?_
    refine x_iconst (v := (4 : Int32)) C dX1_answer_51 (by decide) ?_
    refine x_callV (As := [.int _, .int _]) (n := 2) C (kS_get l D cI cS aS _ 7 (by decide) _ _) (fun hh => nomatch hh) wm_X1_15 wi_X3_get we_X3_get wz_X3 wc_X3_get (by decide +kernel) rfl hP hD hS hA 15 1 rfl rfl rfl hl.1 dX1_answer_52 rfl (Nat.le_of_ble_eq_true rfl) ⟨Nat.le_of_ble_eq_true rfl, Nat.le_of_ble_eq_true rfl⟩ ⟨Nat.zero_le _, Nat.zero_le _⟩ (fun H locs hP hD hS => ?_)
    refine x_iadd C dX1_answer_55 ?_
    refine x_putM (wS cI aS) C h inX2 tyX2 tyX2_ok nmX2 hP hD hS 0 rfl rfl 15 (by decide) wf_X1_117 rfl (ft := .int) (by decide +kernel) rfl rfl (Nat.le_of_ble_eq_true rfl) rfl dX1_answer_56 (fun S11 h H locs hP hD hS => ?_)
    refine x_aload_n C dX1_answer_59 rfl hl 2 rfl ?_
    refine x_get C inX2 hP 0 rfl rfl 1 (by decide) wf_X1_120 rfl dX1_answer_60 ?_
    refine x_iload_n C dX1_answer_63 rfl hl 0 rfl ?_
    refine x_iconst (v := (2 : Int32)) C dX1_answer_64 (by decide) ?_
    refine x_iconst (v := (1 : Int32)) C dX1_answer_65 (by decide) ?_
    refine x_callV (As := [.int _, .int _, .int _]) (n := 3) C (kS_add l D cI cS aS _ 1 (by decide) _ _ _) (fun hh => nomatch hh) wm_X1_104 wi_X3_add we_X3_add wz_X3 wc_X3_add (by decide +kernel) rfl hP hD hS hA 3 1 rfl rfl rfl hl.1 dX1_answer_66 rfl (Nat.le_of_ble_eq_true rfl) ⟨Nat.le_of_ble_eq_true rfl, Nat.le_of_ble_eq_true rfl⟩ ⟨Nat.zero_le _, Nat.zero_le _⟩ (fun H locs hP hD hS => ?_)
    refine x_nmS (wS cI aS) h hP hD (fun S12 h hP hD => ?_)
    refine x_aload_n C dX1_answer_69 rfl hl 2 rfl ?_
    refine x_get C inX2 hP 0 rfl rfl 1 (by decide) wf_X1_120 rfl dX1_answer_70 ?_
    refine x_iload_n C dX1_answer_73 rfl hl 0 rfl ?_
    refine x_bipush (v := (7 : Int32)) C dX1_answer_74 (by decide) ?_
    refine x_aload_n C dX1_answer_76 rfl hl 2 rfl ?_
    refine x_get C inX2 hP 0 rfl rfl 5 (by decide) wf_X1_9 rfl dX1_answer_77 ?_
    refine x_iload_n C dX1_answer_80 rfl hl 1 rfl ?_
    refine x_iconst (v := (3 : Int32)) C dX1_answer_81 (by decide) ?_
    refine x_callV (As := [.int _, .int _]) (n := 2) C (kS_get l D cI cS aS _ 5 (by decide) _ _) (fun hh => nomatch hh) wm_X1_15 wi_X3_get we_X3_get wz_X3 wc_X3_get (by decide +kernel) rfl hP hD hS hA 11 1 rfl rfl rfl hl.1 dX1_answer_82 rfl (Nat.le_of_ble_eq_true rfl) ⟨Nat.le_of_ble_eq_true rfl, Nat.le_of_ble_eq_true rfl⟩ ⟨Nat.zero_le _, Nat.zero_le _⟩ (fun H locs hP hD hS => ?_)
    refine x_iadd C dX1_answer_85 ?_
    refine x_iconst (v := (1 : Int32)) C dX1_answer_86 (by decide) ?_
    refine x_callV (As := [.int _, .int _, .int _]) (n := 3) C (kS_add l D cI cS aS _ 1 (by decide) _ _ _) (fun hh => nomatch hh) wm_X1_104 wi_X3_add we_X3_add wz_X3 wc_X3_add (by decide +kernel) rfl hP hD hS hA 3 1 rfl rfl rfl hl.1 dX1_answer_87 rfl (Nat.le_of_ble_eq_true rfl) ⟨Nat.le_of_ble_eq_true rfl, Nat.le_of_ble_eq_true rfl⟩ ⟨Nat.zero_le _, Nat.zero_le _⟩ (fun H locs hP hD hS => ?_)
    refine x_nmS (wS cI aS) h hP hD (fun S13 h hP hD => ?_)
    refine x_aload_n C dX1_answer_90 rfl hl 2 rfl ?_
    refine x_get C inX2 hP 0 rfl rfl 5 (by decide) wf_X1_9 rfl dX1_answer_91 ?_
    refine x_iload_n C dX1_answer_94 rfl hl 1 rfl ?_
    refine x_callV (As := [.int _]) (n := 1) C (kS_drop l D cI cS aS _ 5 (by decide) _) (fun hh => nomatch hh) wm_X1_70 wi_X3_drop we_X3_drop wz_X3 wc_X3_drop (by decide +kernel) rfl hP hD hS hA 11 1 rfl rfl rfl hl.1 dX1_answer_95 rfl (Nat.le_of_ble_eq_true rfl) ⟨Nat.le_of_ble_eq_true rfl, Nat.le_of_ble_eq_true rfl⟩ ⟨Nat.zero_le _, Nat.zero_le _⟩ (fun H locs hP hD hS => ?_)
    refine x_nmS (wS cI aS) h hP hD (fun S14 h hP hD => ?_)
    refine x_aload_n C dX1_answer_98 rfl hl 2 rfl ?_
    refine x_get C inX2 hP 0 rfl rfl 7 (by decide) wf_X1_59 rfl dX1_answer_99 ?_
    refine x_iload_n C dX1_answer_102 rfl hl 3 rfl ?_
    refine x_iconst (v := (0 : Int32)) C dX1_answer_103 (by decide) ?_
    refine x_bipush (v := (-9 : Int32)) C dX1_answer_104 (by decide) ?_
    refine x_callV (As := [.int _, .int _, .int _]) (n := 3) C (kS_put l D cI cS aS _ 7 (by decide) _ _ _) (fun hh => nomatch hh) wm_X1_28 wi_X3_put we_X3_put wz_X3 wc_X3_put (by decide +kernel) rfl hP hD hS hA 15 1 rfl rfl rfl hl.1 dX1_answer_106 rfl (Nat.le_of_ble_eq_true rfl) ⟨Nat.le_of_ble_eq_true rfl, Nat.le_of_ble_eq_true rfl⟩ ⟨Nat.zero_le _, Nat.zero_le _⟩ (fun H locs hP hD hS => ?_)
    refine x_nmS (wS cI aS) h hP hD (fun S15 h hP hD => ?_)
    exact RETh dX1_answer_109 h hP hD hS
  · refine x_aload_n C dX1_answer_24 rfl hl 1 rfl ?_
    refine x_iload_n C dX1_answer_25 rfl hl 2 rfl ?_
    obtain ⟨u16, hu16, h⟩ := ob_some h
    refine x_callS (As := [.ref _, .int _]) (n := 2) C (kX1_waste l D cI cS aS _ _ hu16) (fun hh => nomatch hh) wm_X1_78 wt_X1_waste wz_X1 wc_X1_waste (by decide +kernel) rfl hP hD hS hA hl.1 dX1_answer_26 rfl (Nat.le_of_ble_eq_true rfl) ⟨Nat.le_of_ble_eq_true rfl, Nat.le_of_ble_eq_true rfl⟩ ⟨Nat.zero_le _, Nat.zero_le _⟩ (fun H locs hP hD hS => ?_)
    refine x_pop C dX1_answer_29 rfl ?_
    exact RETh dX1_answer_30 h hP hD hS
theorem dX1_callBack_0 : decode cX1_callBack 0 = .ok (.aload_n 0, 1) := by decide +kernel
theorem dX1_callBack_1 : decode cX1_callBack 1 = .ok (.getfield 38, 3) := by decide +kernel
theorem dX1_callBack_4 : decode cX1_callBack 4 = .ok (.invokevirtual 41, 3) := by decide +kernel
theorem dX1_callBack_7 : decode cX1_callBack 7 = .ok (.aload_n 0, 1) := by decide +kernel
theorem dX1_callBack_8 : decode cX1_callBack 8 = .ok (.getfield 35, 3) := by decide +kernel
theorem dX1_callBack_11 : decode cX1_callBack 11 = .ok (.iconst 3, 1) := by decide +kernel
theorem dX1_callBack_12 : decode cX1_callBack 12 = .ok (.iconst 0, 1) := by decide +kernel
theorem dX1_callBack_13 : decode cX1_callBack 13 = .ok (.invokevirtual 15, 3) := by decide +kernel
theorem dX1_callBack_16 : decode cX1_callBack 16 = .ok (.if_icmp .lt 9, 3) := by decide +kernel
theorem dX1_callBack_19 : decode cX1_callBack 19 = .ok (.aload_n 0, 1) := by decide +kernel
theorem dX1_callBack_20 : decode cX1_callBack 20 = .ok (.iload_n 1, 1) := by decide +kernel
theorem dX1_callBack_21 : decode cX1_callBack 21 = .ok (.invokestatic 78, 3) := by decide +kernel
theorem dX1_callBack_24 : decode cX1_callBack 24 = .ok (.ireturn, 1) := by decide +kernel
theorem dX1_callBack_25 : decode cX1_callBack 25 = .ok (.aload_n 0, 1) := by decide +kernel
theorem dX1_callBack_26 : decode cX1_callBack 26 = .ok (.getfield 38, 3) := by decide +kernel
theorem dX1_callBack_29 : decode cX1_callBack 29 = .ok (.invokevirtual 24, 3) := by decide +kernel
theorem dX1_callBack_32 : decode cX1_callBack 32 = .ok (.istore_n 2, 1) := by decide +kernel
theorem dX1_callBack_33 : decode cX1_callBack 33 = .ok (.aload_n 0, 1) := by decide +kernel
theorem dX1_callBack_34 : decode cX1_callBack 34 = .ok (.getfield 38, 3) := by decide +kernel
theorem dX1_callBack_37 : decode cX1_callBack 37 = .ok (.iload_n 2, 1) := by decide +kernel
theorem dX1_callBack_38 : decode cX1_callBack 38 = .ok (.iconst 0, 1) := by decide +kernel
theorem dX1_callBack_39 : decode cX1_callBack 39 = .ok (.iload_n 1, 1) := by decide +kernel
theorem dX1_callBack_40 : decode cX1_callBack 40 = .ok (.invokevirtual 28, 3) := by decide +kernel
theorem dX1_callBack_43 : decode cX1_callBack 43 = .ok (.aload_n 0, 1) := by decide +kernel
theorem dX1_callBack_44 : decode cX1_callBack 44 = .ok (.getfield 59, 3) := by decide +kernel
theorem dX1_callBack_47 : decode cX1_callBack 47 = .ok (.iload_n 1, 1) := by decide +kernel
theorem dX1_callBack_48 : decode cX1_callBack 48 = .ok (.iconst 5, 1) := by decide +kernel
theorem dX1_callBack_49 : decode cX1_callBack 49 = .ok (.iconst 3, 1) := by decide +kernel
theorem dX1_callBack_50 : decode cX1_callBack 50 = .ok (.invokevirtual 28, 3) := by decide +kernel
theorem dX1_callBack_53 : decode cX1_callBack 53 = .ok (.bipush (-9), 2) := by decide +kernel
theorem dX1_callBack_55 : decode cX1_callBack 55 = .ok (.ireturn, 1) := by decide +kernel
def fX1_callBack (p2 : Int32) (S : StS) : Option (Int32 × (StS)) :=
  (if (ssize 8 S) < (sget 3 S (3 : Int32) (0 : Int32)) then nm (sappend 8 S).2 fun S6 => nm ((sappend 8 S).1) fun v7 => nm (sput 8 S6 v7 (0 : Int32) p2) fun S8 => nm (sput 7 S8 p2 (5 : Int32) (3 : Int32)) fun S9 => some ((-9 : Int32), S9) else ob (fX1_waste p2 S) fun u10 => some (u10.1, u10.2))
set_option maxHeartbeats 4000000 in
set_option maxRecDepth 100000 in
theorem kX1_callBack (l : Launch) (D : va_G) (cI cS : ClassId) (aS : Nat → Nat) (p2 : Int32) (S : StS) {q : Int32 × (StS)} (h : fX1_callBack p2 S = some q) : Mc l D (tyL cI cS) false yX1_callBack cX1_callBack 3 (some .int) 4 [.ref (aS 0), .int p2] (wS cI aS S) (some (.int q.1)) (wS cI aS q.2) := by
  refine Mc_of RX1 (by decide +kernel) rfl wc_X1_callBack (Nat.le_of_ble_eq_true rfl) ?_
  intro p e s m args below meth c A Q ls C hA hz hP hD hS hl RET
  have RETh : ∀ {pc : Nat} {ls : Array Slot} {H : Heap} {locs : List Loc} {x : Int32} {S1 : StS}, decode cX1_callBack pc = .ok (.ireturn, 1) → some (x, S1) = some q → va_P D vwCl (wS cI aS S1) H → va_D A (wS cI aS S1) → va_S A s.heap H locs → W p l e (rmL 4) s m args below meth c H locs 0 0 Q (F0 m pc ls [.int x]) := by
    intro pc ls H locs x S1 hd h hP hD hS; cases h; exact RET (x_iret C hd) hP hD hS
  refine x_aload_n C dX1_callBack_0 rfl hl 0 rfl ?_
  refine x_get C inX2 hP 0 rfl rfl 8 (by decide) wf_X1_38 rfl dX1_callBack_1 ?_
  refine x_callV (As := []) (n := 0) C (kS_size l D cI cS aS _ 8 (by decide)) (fun hh => nomatch hh) wm_X1_41 wi_X3_size we_X3_size wz_X3 wc_X3_size (by decide +kernel) rfl hP hD hS hA 17 1 rfl rfl rfl hl.1 dX1_callBack_4 rfl (Nat.le_of_ble_eq_true rfl) ⟨Nat.le_of_ble_eq_true rfl, Nat.le_of_ble_eq_true rfl⟩ ⟨Nat.zero_le _, Nat.zero_le _⟩ (fun H locs hP hD hS => ?_)
  refine x_aload_n C dX1_callBack_7 rfl hl 0 rfl ?_
  refine x_get C inX2 hP 0 rfl rfl 3 (by decide) wf_X1_35 rfl dX1_callBack_8 ?_
  refine x_iconst (v := (3 : Int32)) C dX1_callBack_11 (by decide) ?_
  refine x_iconst (v := (0 : Int32)) C dX1_callBack_12 (by decide) ?_
  refine x_callV (As := [.int _, .int _]) (n := 2) C (kS_get l D cI cS aS _ 3 (by decide) _ _) (fun hh => nomatch hh) wm_X1_15 wi_X3_get we_X3_get wz_X3 wc_X3_get (by decide +kernel) rfl hP hD hS hA 7 1 rfl rfl rfl hl.1 dX1_callBack_13 rfl (Nat.le_of_ble_eq_true rfl) ⟨Nat.le_of_ble_eq_true rfl, Nat.le_of_ble_eq_true rfl⟩ ⟨Nat.zero_le _, Nat.zero_le _⟩ (fun H locs hP hD hS => ?_)
  refine x_icmp_lt (tgt := 25) C h dX1_callBack_16 (by decide) (fun h => ?_) (fun h => ?_)
  · refine x_aload_n C dX1_callBack_25 rfl hl 0 rfl ?_
    refine x_get C inX2 hP 0 rfl rfl 8 (by decide) wf_X1_38 rfl dX1_callBack_26 ?_
    refine x_callV (As := []) (n := 0) C (kS_append l D cI cS aS _ 8 (by decide)) (fun hh => nomatch hh) wm_X1_24 wi_X3_append we_X3_append wz_X3 wc_X3_append (by decide +kernel) rfl hP hD hS hA 17 1 rfl rfl rfl hl.1 dX1_callBack_29 rfl (Nat.le_of_ble_eq_true rfl) ⟨Nat.le_of_ble_eq_true rfl, Nat.le_of_ble_eq_true rfl⟩ ⟨Nat.zero_le _, Nat.zero_le _⟩ (fun H locs hP hD hS => ?_)
    refine x_nmS (wS cI aS) h hP hD (fun S6 h hP hD => ?_)
    refine x_nmi h (fun v7 h => ?_)
    refine x_istore_n (lv' := [(2, .int v7), (0, .ref (aS 0)), (1, .int p2)]) C dX1_callBack_32 rfl hl (by decide) rfl (fun ls hl => ?_)
    refine x_aload_n C dX1_callBack_33 rfl hl 1 rfl ?_
    refine x_get C inX2 hP 0 rfl rfl 8 (by decide) wf_X1_38 rfl dX1_callBack_34 ?_
    refine x_iload_n C dX1_callBack_37 rfl hl 0 rfl ?_
    refine x_iconst (v := (0 : Int32)) C dX1_callBack_38 (by decide) ?_
    refine x_iload_n C dX1_callBack_39 rfl hl 2 rfl ?_
    refine x_callV (As := [.int _, .int _, .int _]) (n := 3) C (kS_put l D cI cS aS _ 8 (by decide) _ _ _) (fun hh => nomatch hh) wm_X1_28 wi_X3_put we_X3_put wz_X3 wc_X3_put (by decide +kernel) rfl hP hD hS hA 17 1 rfl rfl rfl hl.1 dX1_callBack_40 rfl (Nat.le_of_ble_eq_true rfl) ⟨Nat.le_of_ble_eq_true rfl, Nat.le_of_ble_eq_true rfl⟩ ⟨Nat.zero_le _, Nat.zero_le _⟩ (fun H locs hP hD hS => ?_)
    refine x_nmS (wS cI aS) h hP hD (fun S8 h hP hD => ?_)
    refine x_aload_n C dX1_callBack_43 rfl hl 1 rfl ?_
    refine x_get C inX2 hP 0 rfl rfl 7 (by decide) wf_X1_59 rfl dX1_callBack_44 ?_
    refine x_iload_n C dX1_callBack_47 rfl hl 2 rfl ?_
    refine x_iconst (v := (5 : Int32)) C dX1_callBack_48 (by decide) ?_
    refine x_iconst (v := (3 : Int32)) C dX1_callBack_49 (by decide) ?_
    refine x_callV (As := [.int _, .int _, .int _]) (n := 3) C (kS_put l D cI cS aS _ 7 (by decide) _ _ _) (fun hh => nomatch hh) wm_X1_28 wi_X3_put we_X3_put wz_X3 wc_X3_put (by decide +kernel) rfl hP hD hS hA 15 1 rfl rfl rfl hl.1 dX1_callBack_50 rfl (Nat.le_of_ble_eq_true rfl) ⟨Nat.le_of_ble_eq_true rfl, Nat.le_of_ble_eq_true rfl⟩ ⟨Nat.zero_le _, Nat.zero_le _⟩ (fun H locs hP hD hS => ?_)
    refine x_nmS (wS cI aS) h hP hD (fun S9 h hP hD => ?_)
    refine x_bipush (v := (-9 : Int32)) C dX1_callBack_53 (by decide) ?_
    exact RETh dX1_callBack_55 h hP hD hS
  · refine x_aload_n C dX1_callBack_19 rfl hl 0 rfl ?_
    refine x_iload_n C dX1_callBack_20 rfl hl 1 rfl ?_
    obtain ⟨u10, hu10, h⟩ := ob_some h
    refine x_callS (As := [.ref _, .int _]) (n := 2) C (kX1_waste l D cI cS aS _ _ hu10) (fun hh => nomatch hh) wm_X1_78 wt_X1_waste wz_X1 wc_X1_waste (by decide +kernel) rfl hP hD hS hA hl.1 dX1_callBack_21 rfl (Nat.le_of_ble_eq_true rfl) ⟨Nat.le_of_ble_eq_true rfl, Nat.le_of_ble_eq_true rfl⟩ ⟨Nat.zero_le _, Nat.zero_le _⟩ (fun H locs hP hD hS => ?_)
    exact RETh dX1_callBack_24 h hP hD hS
