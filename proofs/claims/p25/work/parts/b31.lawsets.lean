/-! the law's own methods: cell, value, sets -/
theorem x_tabO0_10 {x : Int32} (h0 : ¬ x = 0) (h1 : ¬ x = 1) (h2 : ¬ x = 2) (h3 : ¬ x = 3) (h4 : ¬ x = 4) (h5 : ¬ x = 5) (h6 : ¬ x = 6) (h7 : ¬ x = 7) (h8 : ¬ x = 8) (h9 : ¬ x = 9) (h10 : ¬ x = 10) : x.toInt < 0 ∨ 10 < x.toInt := by
  have g0 := x_tne (n := 0) (by decide) h0
  have g1 := x_tne (n := 1) (by decide) h1
  have g2 := x_tne (n := 2) (by decide) h2
  have g3 := x_tne (n := 3) (by decide) h3
  have g4 := x_tne (n := 4) (by decide) h4
  have g5 := x_tne (n := 5) (by decide) h5
  have g6 := x_tne (n := 6) (by decide) h6
  have g7 := x_tne (n := 7) (by decide) h7
  have g8 := x_tne (n := 8) (by decide) h8
  have g9 := x_tne (n := 9) (by decide) h9
  have g10 := x_tne (n := 10) (by decide) h10
  omega
set_option maxRecDepth 100000 in
theorem wRq_recv (cI cS : ClassId) (aR : Nat → Nat) (X : RS) (aQ : Nat) (f : Nat → Int32) : (wR cI cS aR X ++ wI cI aQ 6 f)[0]? = some (aR 0, .inr (2, [.ref (X.1 0 0), .ref (X.1 1 0), .ref (aR 1), .int X.2.2])) := rfl
theorem dL_cell_0 : decode cL_cell 0 = .ok (.iload_n 1, 1) := by decide +kernel
theorem dL_cell_1 : decode cL_cell 1 = .ok (.aload_n 0, 1) := by decide +kernel
theorem dL_cell_2 : decode cL_cell 2 = .ok (.arraylength, 1) := by decide +kernel
theorem dL_cell_3 : decode cL_cell 3 = .ok (.if_icmp .ge 9, 3) := by decide +kernel
theorem dL_cell_6 : decode cL_cell 6 = .ok (.aload_n 0, 1) := by decide +kernel
theorem dL_cell_7 : decode cL_cell 7 = .ok (.iload_n 1, 1) := by decide +kernel
theorem dL_cell_8 : decode cL_cell 8 = .ok (.iaload, 1) := by decide +kernel
theorem dL_cell_9 : decode cL_cell 9 = .ok (.goto 11, 3) := by decide +kernel
theorem dL_cell_12 : decode cL_cell 12 = .ok (.ldc 7, 2) := by decide +kernel
theorem dL_cell_14 : decode cL_cell 14 = .ok (.iload_n 1, 1) := by decide +kernel
theorem dL_cell_15 : decode cL_cell 15 = .ok (.imul, 1) := by decide +kernel
theorem dL_cell_16 : decode cL_cell 16 = .ok (.sipush 709, 3) := by decide +kernel
theorem dL_cell_19 : decode cL_cell 19 = .ok (.iadd, 1) := by decide +kernel
theorem dL_cell_20 : decode cL_cell 20 = .ok (.ldc 8, 2) := by decide +kernel
theorem dL_cell_22 : decode cL_cell 22 = .ok (.iand, 1) := by decide +kernel
theorem dL_cell_23 : decode cL_cell 23 = .ok (.ireturn, 1) := by decide +kernel
def bfL_cell_20 (L : Nat) (xs : Nat → Int32) (p2 : Int32) (s0 : Int32) : Option (Int32) :=
  some (s0 &&& (2147483647 : Int32))
def fL_cell (L : Nat) (xs : Nat → Int32) (p2 : Int32) : Option (Int32) :=
  (if (nI L) ≤ p2 then bfL_cell_20 L xs p2  ((((15485977 : Int32) * p2) + (709 : Int32))) else (if okI p2 L then bfL_cell_20 L xs p2  ((xs (p2).toNatClampNeg)) else none))
set_option maxHeartbeats 4000000 in
set_option maxRecDepth 100000 in
theorem kL_cell (l : Launch) (D : va_G) (cI cS : ClassId) (b L : Nat) (xs : Nat → Int32) (ws : va_W)  (p2 : Int32) {q : Int32} (h : fL_cell L xs p2 = some q) : Ms l D (tyL cI cS) b L xs yL_cell cL_cell 2 (some .int) 1 0 0 [.ref b, .int p2] (ws) (some (.int q)) (ws) := by
  refine Ms_of RL (by decide +kernel) rfl wc_L_cell (Nat.le_of_ble_eq_true rfl) ?_
  intro p e s m args below meth c A Q ls C hA hz hX hP hD hS hl RET
  have RETh : ∀ {pc : Nat} {ls : Array Slot} {H : Heap} {locs : List Loc} {x : Int32}, decode cL_cell pc = .ok (.ireturn, 1) → some x = some q → va_P D vwCl (ws) H → va_D A (ws) → va_S A s.heap H locs → W p l e (rmN 1 0 0) s m args below meth c H locs 0 0 Q (F0 m pc ls [.int x]) := by
    intro pc ls H locs x hd h hP hD hS; cases h; exact RET (x_iret C hd) hP hD hS
  have B20 : ∀ (s0 : Int32), bfL_cell_20 L xs p2 s0 = some q → ∀ (H : Heap) (locs : List Loc) (ls : Array Slot), va_P D vwCl (ws) H → va_D A (ws) → va_S A s.heap H locs → lv_has ls 2 [] → W p l e (rmN 1 0 0) s m args below meth c H locs 0 0 Q (F0 m 20 ls [.int s0]) := by
    intro s0 h H locs ls hP hD hS hl
    refine x_ldc C wq_L_8 dL_cell_20 ?_
    refine x_iand C dL_cell_22 ?_
    exact RETh dL_cell_23 h hP hD hS
  refine x_iload_n C dL_cell_0 rfl hl 1 rfl ?_
  refine x_aload_n C dL_cell_1 rfl hl 0 rfl ?_
  refine x_slen C hX hS dL_cell_2 ?_
  refine x_icmp_ge (tgt := 12) C h dL_cell_3 (by decide) (fun h => ?_) (fun h => ?_)
  · refine x_ldc C wq_L_7 dL_cell_12 ?_
    refine x_iload_n C dL_cell_14 rfl hl 1 rfl ?_
    refine x_imul C dL_cell_15 ?_
    refine x_sipush (v := (709 : Int32)) C dL_cell_16 (by decide) ?_
    refine x_iadd C dL_cell_19 ?_
    exact B20 _ h _ _ _ hP hD hS (lv_sub hl [] rfl)
  · refine x_aload_n C dL_cell_6 rfl hl 0 rfl ?_
    refine x_iload_n C dL_cell_7 rfl hl 1 rfl ?_
    obtain ⟨hc2, h⟩ := x_ifn h
    refine x_sld C hX hS hc2 dL_cell_8 ?_
    refine x_goto (tgt := 20) C dL_cell_9 (by decide) ?_
    exact B20 _ h _ _ _ hP hD hS (lv_sub hl [] rfl)
theorem dL_value_0 : decode cL_value 0 = .ok (.iload_n 0, 1) := by decide +kernel
theorem dL_value_1 : decode cL_value 1 = .ok (.tableswitch 137 0 10 #[59, 66, 71, 78, 85, 92, 98, 105, 109, 116, 132], 59) := by decide +kernel
theorem dL_value_60 : decode cL_value 60 = .ok (.iconst 1, 1) := by decide +kernel
theorem dL_value_61 : decode cL_value 61 = .ok (.iload_n 1, 1) := by decide +kernel
theorem dL_value_62 : decode cL_value 62 = .ok (.bipush 6, 2) := by decide +kernel
theorem dL_value_64 : decode cL_value 64 = .ok (.irem, 1) := by decide +kernel
theorem dL_value_65 : decode cL_value 65 = .ok (.iadd, 1) := by decide +kernel
theorem dL_value_66 : decode cL_value 66 = .ok (.ireturn, 1) := by decide +kernel
theorem dL_value_67 : decode cL_value 67 = .ok (.iload_n 1, 1) := by decide +kernel
theorem dL_value_68 : decode cL_value 68 = .ok (.bipush 8, 2) := by decide +kernel
theorem dL_value_70 : decode cL_value 70 = .ok (.irem, 1) := by decide +kernel
theorem dL_value_71 : decode cL_value 71 = .ok (.ireturn, 1) := by decide +kernel
theorem dL_value_72 : decode cL_value 72 = .ok (.iconst 3, 1) := by decide +kernel
theorem dL_value_73 : decode cL_value 73 = .ok (.iload_n 1, 1) := by decide +kernel
theorem dL_value_74 : decode cL_value 74 = .ok (.bipush 25, 2) := by decide +kernel
theorem dL_value_76 : decode cL_value 76 = .ok (.irem, 1) := by decide +kernel
theorem dL_value_77 : decode cL_value 77 = .ok (.iadd, 1) := by decide +kernel
theorem dL_value_78 : decode cL_value 78 = .ok (.ireturn, 1) := by decide +kernel
theorem dL_value_79 : decode cL_value 79 = .ok (.iconst 1, 1) := by decide +kernel
theorem dL_value_80 : decode cL_value 80 = .ok (.iload_n 1, 1) := by decide +kernel
theorem dL_value_81 : decode cL_value 81 = .ok (.bipush 6, 2) := by decide +kernel
theorem dL_value_83 : decode cL_value 83 = .ok (.irem, 1) := by decide +kernel
theorem dL_value_84 : decode cL_value 84 = .ok (.iadd, 1) := by decide +kernel
theorem dL_value_85 : decode cL_value 85 = .ok (.ireturn, 1) := by decide +kernel
theorem dL_value_86 : decode cL_value 86 = .ok (.iconst 2, 1) := by decide +kernel
theorem dL_value_87 : decode cL_value 87 = .ok (.iload_n 1, 1) := by decide +kernel
theorem dL_value_88 : decode cL_value 88 = .ok (.bipush 12, 2) := by decide +kernel
theorem dL_value_90 : decode cL_value 90 = .ok (.irem, 1) := by decide +kernel
theorem dL_value_91 : decode cL_value 91 = .ok (.iadd, 1) := by decide +kernel
theorem dL_value_92 : decode cL_value 92 = .ok (.ireturn, 1) := by decide +kernel
theorem dL_value_93 : decode cL_value 93 = .ok (.iconst 1, 1) := by decide +kernel
theorem dL_value_94 : decode cL_value 94 = .ok (.iload_n 1, 1) := by decide +kernel
theorem dL_value_95 : decode cL_value 95 = .ok (.iconst 5, 1) := by decide +kernel
theorem dL_value_96 : decode cL_value 96 = .ok (.irem, 1) := by decide +kernel
theorem dL_value_97 : decode cL_value 97 = .ok (.iadd, 1) := by decide +kernel
theorem dL_value_98 : decode cL_value 98 = .ok (.ireturn, 1) := by decide +kernel
theorem dL_value_99 : decode cL_value 99 = .ok (.iconst 1, 1) := by decide +kernel
theorem dL_value_100 : decode cL_value 100 = .ok (.iload_n 1, 1) := by decide +kernel
theorem dL_value_101 : decode cL_value 101 = .ok (.bipush 20, 2) := by decide +kernel
theorem dL_value_103 : decode cL_value 103 = .ok (.irem, 1) := by decide +kernel
theorem dL_value_104 : decode cL_value 104 = .ok (.iadd, 1) := by decide +kernel
theorem dL_value_105 : decode cL_value 105 = .ok (.ireturn, 1) := by decide +kernel
theorem dL_value_106 : decode cL_value 106 = .ok (.iload_n 1, 1) := by decide +kernel
theorem dL_value_107 : decode cL_value 107 = .ok (.iconst 4, 1) := by decide +kernel
theorem dL_value_108 : decode cL_value 108 = .ok (.irem, 1) := by decide +kernel
theorem dL_value_109 : decode cL_value 109 = .ok (.ireturn, 1) := by decide +kernel
theorem dL_value_110 : decode cL_value 110 = .ok (.iconst 1, 1) := by decide +kernel
theorem dL_value_111 : decode cL_value 111 = .ok (.iload_n 1, 1) := by decide +kernel
theorem dL_value_112 : decode cL_value 112 = .ok (.bipush 6, 2) := by decide +kernel
theorem dL_value_114 : decode cL_value 114 = .ok (.irem, 1) := by decide +kernel
theorem dL_value_115 : decode cL_value 115 = .ok (.iadd, 1) := by decide +kernel
theorem dL_value_116 : decode cL_value 116 = .ok (.ireturn, 1) := by decide +kernel
theorem dL_value_117 : decode cL_value 117 = .ok (.iload_n 1, 1) := by decide +kernel
theorem dL_value_118 : decode cL_value 118 = .ok (.iconst 3, 1) := by decide +kernel
theorem dL_value_119 : decode cL_value 119 = .ok (.irem, 1) := by decide +kernel
theorem dL_value_120 : decode cL_value 120 = .ok (.ifCond .ne 11, 3) := by decide +kernel
theorem dL_value_123 : decode cL_value 123 = .ok (.iconst 1, 1) := by decide +kernel
theorem dL_value_124 : decode cL_value 124 = .ok (.iload_n 1, 1) := by decide +kernel
theorem dL_value_125 : decode cL_value 125 = .ok (.iconst 5, 1) := by decide +kernel
theorem dL_value_126 : decode cL_value 126 = .ok (.irem, 1) := by decide +kernel
theorem dL_value_127 : decode cL_value 127 = .ok (.iadd, 1) := by decide +kernel
theorem dL_value_128 : decode cL_value 128 = .ok (.goto 4, 3) := by decide +kernel
theorem dL_value_131 : decode cL_value 131 = .ok (.iconst 0, 1) := by decide +kernel
theorem dL_value_132 : decode cL_value 132 = .ok (.ireturn, 1) := by decide +kernel
theorem dL_value_133 : decode cL_value 133 = .ok (.iload_n 1, 1) := by decide +kernel
theorem dL_value_134 : decode cL_value 134 = .ok (.bipush 21, 2) := by decide +kernel
theorem dL_value_136 : decode cL_value 136 = .ok (.irem, 1) := by decide +kernel
theorem dL_value_137 : decode cL_value 137 = .ok (.ireturn, 1) := by decide +kernel
theorem dL_value_138 : decode cL_value 138 = .ok (.iload_n 1, 1) := by decide +kernel
theorem dL_value_139 : decode cL_value 139 = .ok (.bipush 11, 2) := by decide +kernel
theorem dL_value_141 : decode cL_value 141 = .ok (.irem, 1) := by decide +kernel
theorem dL_value_142 : decode cL_value 142 = .ok (.ireturn, 1) := by decide +kernel
def bfL_value_132 (p1 : Int32) (p2 : Int32) (s0 : Int32) : Option (Int32) :=
  some s0
def fL_value (p1 : Int32) (p2 : Int32) : Option (Int32) :=
  (if p1 = (0 : Int32) then some ((1 : Int32) + (p2 - p2 / (6 : Int32) * (6 : Int32))) else (if p1 = (1 : Int32) then some (p2 - p2 / (8 : Int32) * (8 : Int32)) else (if p1 = (2 : Int32) then some ((3 : Int32) + (p2 - p2 / (25 : Int32) * (25 : Int32))) else (if p1 = (3 : Int32) then some ((1 : Int32) + (p2 - p2 / (6 : Int32) * (6 : Int32))) else (if p1 = (4 : Int32) then some ((2 : Int32) + (p2 - p2 / (12 : Int32) * (12 : Int32))) else (if p1 = (5 : Int32) then some ((1 : Int32) + (p2 - p2 / (5 : Int32) * (5 : Int32))) else (if p1 = (6 : Int32) then some ((1 : Int32) + (p2 - p2 / (20 : Int32) * (20 : Int32))) else (if p1 = (7 : Int32) then some (p2 - p2 / (4 : Int32) * (4 : Int32)) else (if p1 = (8 : Int32) then some ((1 : Int32) + (p2 - p2 / (6 : Int32) * (6 : Int32))) else (if p1 = (9 : Int32) then (if (p2 - p2 / (3 : Int32) * (3 : Int32)) = 0 then bfL_value_132 p1 p2  (((1 : Int32) + (p2 - p2 / (5 : Int32) * (5 : Int32)))) else bfL_value_132 p1 p2  ((0 : Int32))) else (if p1 = (10 : Int32) then some (p2 - p2 / (21 : Int32) * (21 : Int32)) else some (p2 - p2 / (11 : Int32) * (11 : Int32)))))))))))))
set_option maxHeartbeats 4000000 in
set_option maxRecDepth 100000 in
theorem kL_value (l : Launch) (D : va_G) (cI cS : ClassId) (ws : va_W) (p1 : Int32) (p2 : Int32) {q : Int32} (h : fL_value p1 p2 = some q) : Mc l D (tyL cI cS) false yL_value cL_value 2 (some .int) 1 [.int p1, .int p2] (ws) (some (.int q)) (ws) := by
  refine Mc_of RL (by decide +kernel) rfl wc_L_value (Nat.le_of_ble_eq_true rfl) ?_
  intro p e s m args below meth c A Q ls C hA hz hP hD hS hl RET
  have RETh : ∀ {pc : Nat} {ls : Array Slot} {H : Heap} {locs : List Loc} {x : Int32} , decode cL_value pc = .ok (.ireturn, 1) → some x = some q → va_P D vwCl (ws) H → va_D A (ws) → va_S A s.heap H locs → W p l e (rmL 1) s m args below meth c H locs 0 0 Q (F0 m pc ls [.int x]) := by
    intro pc ls H locs x hd h hP hD hS; cases h; exact RET (x_iret C hd) hP hD hS
  have B132 : ∀ (s0 : Int32), bfL_value_132 p1 p2 s0 = some q → ∀ (H : Heap) (locs : List Loc) (ls : Array Slot), va_P D vwCl (ws) H → va_D A (ws) → va_S A s.heap H locs → lv_has ls 2 [] → W p l e (rmL 1) s m args below meth c H locs 0 0 Q (F0 m 132 ls [.int s0]) := by
    intro s0 h H locs ls hP hD hS hl
    exact RETh dL_value_132 h hP hD hS
  refine x_iload_n C dL_value_0 rfl hl 0 rfl ?_
  rcases x_ifc h with ⟨hc, h⟩ | ⟨hc0, h⟩
  · refine x_tabIn (tgt := 60) C dL_value_1 (by rw [hc]; decide) (by rw [hc]; decide) (by rw [hc]; rfl) (by decide) ?_
    refine x_iconst (v := (1 : Int32)) C dL_value_60 (by decide) ?_
    refine x_iload_n C dL_value_61 rfl hl 1 rfl ?_
    refine x_bipush (v := (6 : Int32)) C dL_value_62 (by decide) ?_
    refine x_iremK C (by decide) dL_value_64 ?_
    refine x_iadd C dL_value_65 ?_
    exact RETh dL_value_66 h hP hD hS
  ·
    rcases x_ifc h with ⟨hc, h⟩ | ⟨hc1, h⟩
    · refine x_tabIn (tgt := 67) C dL_value_1 (by rw [hc]; decide) (by rw [hc]; decide) (by rw [hc]; rfl) (by decide) ?_
      refine x_iload_n C dL_value_67 rfl hl 1 rfl ?_
      refine x_bipush (v := (8 : Int32)) C dL_value_68 (by decide) ?_
      refine x_iremK C (by decide) dL_value_70 ?_
      exact RETh dL_value_71 h hP hD hS
    ·
      rcases x_ifc h with ⟨hc, h⟩ | ⟨hc2, h⟩
      · refine x_tabIn (tgt := 72) C dL_value_1 (by rw [hc]; decide) (by rw [hc]; decide) (by rw [hc]; rfl) (by decide) ?_
        refine x_iconst (v := (3 : Int32)) C dL_value_72 (by decide) ?_
        refine x_iload_n C dL_value_73 rfl hl 1 rfl ?_
        refine x_bipush (v := (25 : Int32)) C dL_value_74 (by decide) ?_
        refine x_iremK C (by decide) dL_value_76 ?_
        refine x_iadd C dL_value_77 ?_
        exact RETh dL_value_78 h hP hD hS
      ·
        rcases x_ifc h with ⟨hc, h⟩ | ⟨hc3, h⟩
        · refine x_tabIn (tgt := 79) C dL_value_1 (by rw [hc]; decide) (by rw [hc]; decide) (by rw [hc]; rfl) (by decide) ?_
          refine x_iconst (v := (1 : Int32)) C dL_value_79 (by decide) ?_
          refine x_iload_n C dL_value_80 rfl hl 1 rfl ?_
          refine x_bipush (v := (6 : Int32)) C dL_value_81 (by decide) ?_
          refine x_iremK C (by decide) dL_value_83 ?_
          refine x_iadd C dL_value_84 ?_
          exact RETh dL_value_85 h hP hD hS
        ·
          rcases x_ifc h with ⟨hc, h⟩ | ⟨hc4, h⟩
          · refine x_tabIn (tgt := 86) C dL_value_1 (by rw [hc]; decide) (by rw [hc]; decide) (by rw [hc]; rfl) (by decide) ?_
            refine x_iconst (v := (2 : Int32)) C dL_value_86 (by decide) ?_
            refine x_iload_n C dL_value_87 rfl hl 1 rfl ?_
            refine x_bipush (v := (12 : Int32)) C dL_value_88 (by decide) ?_
            refine x_iremK C (by decide) dL_value_90 ?_
            refine x_iadd C dL_value_91 ?_
            exact RETh dL_value_92 h hP hD hS
          ·
            rcases x_ifc h with ⟨hc, h⟩ | ⟨hc5, h⟩
            · refine x_tabIn (tgt := 93) C dL_value_1 (by rw [hc]; decide) (by rw [hc]; decide) (by rw [hc]; rfl) (by decide) ?_
              refine x_iconst (v := (1 : Int32)) C dL_value_93 (by decide) ?_
              refine x_iload_n C dL_value_94 rfl hl 1 rfl ?_
              refine x_iconst (v := (5 : Int32)) C dL_value_95 (by decide) ?_
              refine x_iremK C (by decide) dL_value_96 ?_
              refine x_iadd C dL_value_97 ?_
              exact RETh dL_value_98 h hP hD hS
            ·
              rcases x_ifc h with ⟨hc, h⟩ | ⟨hc6, h⟩
              · refine x_tabIn (tgt := 99) C dL_value_1 (by rw [hc]; decide) (by rw [hc]; decide) (by rw [hc]; rfl) (by decide) ?_
                refine x_iconst (v := (1 : Int32)) C dL_value_99 (by decide) ?_
                refine x_iload_n C dL_value_100 rfl hl 1 rfl ?_
                refine x_bipush (v := (20 : Int32)) C dL_value_101 (by decide) ?_
                refine x_iremK C (by decide) dL_value_103 ?_
                refine x_iadd C dL_value_104 ?_
                exact RETh dL_value_105 h hP hD hS
              ·
                rcases x_ifc h with ⟨hc, h⟩ | ⟨hc7, h⟩
                · refine x_tabIn (tgt := 106) C dL_value_1 (by rw [hc]; decide) (by rw [hc]; decide) (by rw [hc]; rfl) (by decide) ?_
                  refine x_iload_n C dL_value_106 rfl hl 1 rfl ?_
                  refine x_iconst (v := (4 : Int32)) C dL_value_107 (by decide) ?_
                  refine x_iremK C (by decide) dL_value_108 ?_
                  exact RETh dL_value_109 h hP hD hS
                ·
                  rcases x_ifc h with ⟨hc, h⟩ | ⟨hc8, h⟩
                  · refine x_tabIn (tgt := 110) C dL_value_1 (by rw [hc]; decide) (by rw [hc]; decide) (by rw [hc]; rfl) (by decide) ?_
                    refine x_iconst (v := (1 : Int32)) C dL_value_110 (by decide) ?_
                    refine x_iload_n C dL_value_111 rfl hl 1 rfl ?_
                    refine x_bipush (v := (6 : Int32)) C dL_value_112 (by decide) ?_
                    refine x_iremK C (by decide) dL_value_114 ?_
                    refine x_iadd C dL_value_115 ?_
                    exact RETh dL_value_116 h hP hD hS
                  ·
                    rcases x_ifc h with ⟨hc, h⟩ | ⟨hc9, h⟩
                    · refine x_tabIn (tgt := 117) C dL_value_1 (by rw [hc]; decide) (by rw [hc]; decide) (by rw [hc]; rfl) (by decide) ?_
                      refine x_iload_n C dL_value_117 rfl hl 1 rfl ?_
                      refine x_iconst (v := (3 : Int32)) C dL_value_118 (by decide) ?_
                      refine x_iremK C (by decide) dL_value_119 ?_
                      refine x_if_ne (tgt := 131) C h dL_value_120 (by decide) (fun h => ?_) (fun h => ?_)
                      · refine x_iconst (v := (0 : Int32)) C dL_value_131 (by decide) ?_
                        exact B132 _ h _ _ _ hP hD hS (lv_sub hl [] rfl)
                      · refine x_iconst (v := (1 : Int32)) C dL_value_123 (by decide) ?_
                        refine x_iload_n C dL_value_124 rfl hl 1 rfl ?_
                        refine x_iconst (v := (5 : Int32)) C dL_value_125 (by decide) ?_
                        refine x_iremK C (by decide) dL_value_126 ?_
                        refine x_iadd C dL_value_127 ?_
                        refine x_goto (tgt := 132) C dL_value_128 (by decide) ?_
                        exact B132 _ h _ _ _ hP hD hS (lv_sub hl [] rfl)
                    ·
                      rcases x_ifc h with ⟨hc, h⟩ | ⟨hc10, h⟩
                      · refine x_tabIn (tgt := 133) C dL_value_1 (by rw [hc]; decide) (by rw [hc]; decide) (by rw [hc]; rfl) (by decide) ?_
                        refine x_iload_n C dL_value_133 rfl hl 1 rfl ?_
                        refine x_bipush (v := (21 : Int32)) C dL_value_134 (by decide) ?_
                        refine x_iremK C (by decide) dL_value_136 ?_
                        exact RETh dL_value_137 h hP hD hS
                      · refine x_switch (tgt := 138) C dL_value_1 (x_tabO0_10 hc0 hc1 hc2 hc3 hc4 hc5 hc6 hc7 hc8 hc9 hc10) (by decide) ?_
                        refine x_iload_n C dL_value_138 rfl hl 1 rfl ?_
                        refine x_bipush (v := (11 : Int32)) C dL_value_139 (by decide) ?_
                        refine x_iremK C (by decide) dL_value_141 ?_
                        exact RETh dL_value_142 h hP hD hS
theorem dL_sets_0 : decode cL_sets 0 = .ok (.iconst 1, 1) := by decide +kernel
theorem dL_sets_1 : decode cL_sets 1 = .ok (.istore_n 2, 1) := by decide +kernel
theorem dL_sets_2 : decode cL_sets 2 = .ok (.iconst 0, 1) := by decide +kernel
theorem dL_sets_3 : decode cL_sets 3 = .ok (.istore_n 3, 1) := by decide +kernel
theorem dL_sets_4 : decode cL_sets 4 = .ok (.iload_n 3, 1) := by decide +kernel
theorem dL_sets_5 : decode cL_sets 5 = .ok (.iconst 3, 1) := by decide +kernel
theorem dL_sets_6 : decode cL_sets 6 = .ok (.if_icmp .ge 88, 3) := by decide +kernel
theorem dL_sets_9 : decode cL_sets 9 = .ok (.iconst 0, 1) := by decide +kernel
theorem dL_sets_10 : decode cL_sets 10 = .ok (.istore 4, 2) := by decide +kernel
theorem dL_sets_12 : decode cL_sets 12 = .ok (.iload 4, 2) := by decide +kernel
theorem dL_sets_14 : decode cL_sets 14 = .ok (.bipush 12, 2) := by decide +kernel
theorem dL_sets_16 : decode cL_sets 16 = .ok (.if_icmp .ge 72, 3) := by decide +kernel
theorem dL_sets_19 : decode cL_sets 19 = .ok (.iload 4, 2) := by decide +kernel
theorem dL_sets_21 : decode cL_sets 21 = .ok (.aload_n 1, 1) := by decide +kernel
theorem dL_sets_22 : decode cL_sets 22 = .ok (.bipush 12, 2) := by decide +kernel
theorem dL_sets_24 : decode cL_sets 24 = .ok (.iload_n 3, 1) := by decide +kernel
theorem dL_sets_25 : decode cL_sets 25 = .ok (.imul, 1) := by decide +kernel
theorem dL_sets_26 : decode cL_sets 26 = .ok (.iload 4, 2) := by decide +kernel
theorem dL_sets_28 : decode cL_sets 28 = .ok (.iadd, 1) := by decide +kernel
theorem dL_sets_29 : decode cL_sets 29 = .ok (.invokestatic 9, 3) := by decide +kernel
theorem dL_sets_32 : decode cL_sets 32 = .ok (.invokestatic 15, 3) := by decide +kernel
theorem dL_sets_35 : decode cL_sets 35 = .ok (.istore 5, 2) := by decide +kernel
theorem dL_sets_37 : decode cL_sets 37 = .ok (.aload_n 0, 1) := by decide +kernel
theorem dL_sets_38 : decode cL_sets 38 = .ok (.iload_n 3, 1) := by decide +kernel
theorem dL_sets_39 : decode cL_sets 39 = .ok (.iload 4, 2) := by decide +kernel
theorem dL_sets_41 : decode cL_sets 41 = .ok (.invokevirtual 19, 3) := by decide +kernel
theorem dL_sets_44 : decode cL_sets 44 = .ok (.istore 6, 2) := by decide +kernel
theorem dL_sets_46 : decode cL_sets 46 = .ok (.iload_n 2, 1) := by decide +kernel
theorem dL_sets_47 : decode cL_sets 47 = .ok (.ifCond .eq 33, 3) := by decide +kernel
theorem dL_sets_50 : decode cL_sets 50 = .ok (.aload_n 0, 1) := by decide +kernel
theorem dL_sets_51 : decode cL_sets 51 = .ok (.iload_n 3, 1) := by decide +kernel
theorem dL_sets_52 : decode cL_sets 52 = .ok (.iload 4, 2) := by decide +kernel
theorem dL_sets_54 : decode cL_sets 54 = .ok (.iload 5, 2) := by decide +kernel
theorem dL_sets_56 : decode cL_sets 56 = .ok (.invokevirtual 24, 3) := by decide +kernel
theorem dL_sets_59 : decode cL_sets 59 = .ok (.iload 6, 2) := by decide +kernel
theorem dL_sets_61 : decode cL_sets 61 = .ok (.if_icmp .ne 19, 3) := by decide +kernel
theorem dL_sets_64 : decode cL_sets 64 = .ok (.aload_n 0, 1) := by decide +kernel
theorem dL_sets_65 : decode cL_sets 65 = .ok (.iload_n 3, 1) := by decide +kernel
theorem dL_sets_66 : decode cL_sets 66 = .ok (.iload 4, 2) := by decide +kernel
theorem dL_sets_68 : decode cL_sets 68 = .ok (.invokevirtual 19, 3) := by decide +kernel
theorem dL_sets_71 : decode cL_sets 71 = .ok (.iload 5, 2) := by decide +kernel
theorem dL_sets_73 : decode cL_sets 73 = .ok (.if_icmp .ne 7, 3) := by decide +kernel
theorem dL_sets_76 : decode cL_sets 76 = .ok (.iconst 1, 1) := by decide +kernel
theorem dL_sets_77 : decode cL_sets 77 = .ok (.goto 4, 3) := by decide +kernel
theorem dL_sets_80 : decode cL_sets 80 = .ok (.iconst 0, 1) := by decide +kernel
theorem dL_sets_81 : decode cL_sets 81 = .ok (.istore_n 2, 1) := by decide +kernel
theorem dL_sets_82 : decode cL_sets 82 = .ok (.iinc 4 1, 3) := by decide +kernel
theorem dL_sets_85 : decode cL_sets 85 = .ok (.goto (-73), 3) := by decide +kernel
theorem dL_sets_88 : decode cL_sets 88 = .ok (.iinc 3 1, 3) := by decide +kernel
theorem dL_sets_91 : decode cL_sets 91 = .ok (.goto (-87), 3) := by decide +kernel
theorem dL_sets_94 : decode cL_sets 94 = .ok (.aload_n 1, 1) := by decide +kernel
theorem dL_sets_95 : decode cL_sets 95 = .ok (.bipush 36, 2) := by decide +kernel
theorem dL_sets_97 : decode cL_sets 97 = .ok (.invokestatic 9, 3) := by decide +kernel
theorem dL_sets_100 : decode cL_sets 100 = .ok (.istore_n 3, 1) := by decide +kernel
theorem dL_sets_101 : decode cL_sets 101 = .ok (.iload_n 2, 1) := by decide +kernel
theorem dL_sets_102 : decode cL_sets 102 = .ok (.ifCond .eq 86, 3) := by decide +kernel
theorem dL_sets_105 : decode cL_sets 105 = .ok (.aload_n 0, 1) := by decide +kernel
theorem dL_sets_106 : decode cL_sets 106 = .ok (.iconst 0, 1) := by decide +kernel
theorem dL_sets_107 : decode cL_sets 107 = .ok (.iconst 1, 1) := by decide +kernel
theorem dL_sets_108 : decode cL_sets 108 = .ok (.iload_n 3, 1) := by decide +kernel
theorem dL_sets_109 : decode cL_sets 109 = .ok (.iconst 4, 1) := by decide +kernel
theorem dL_sets_110 : decode cL_sets 110 = .ok (.irem, 1) := by decide +kernel
theorem dL_sets_111 : decode cL_sets 111 = .ok (.iadd, 1) := by decide +kernel
theorem dL_sets_112 : decode cL_sets 112 = .ok (.invokevirtual 28, 3) := by decide +kernel
theorem dL_sets_115 : decode cL_sets 115 = .ok (.iconst 2, 1) := by decide +kernel
theorem dL_sets_116 : decode cL_sets 116 = .ok (.if_icmp .ne 72, 3) := by decide +kernel
theorem dL_sets_119 : decode cL_sets 119 = .ok (.aload_n 0, 1) := by decide +kernel
theorem dL_sets_120 : decode cL_sets 120 = .ok (.iconst 1, 1) := by decide +kernel
theorem dL_sets_121 : decode cL_sets 121 = .ok (.iconst 1, 1) := by decide +kernel
theorem dL_sets_122 : decode cL_sets 122 = .ok (.iload_n 3, 1) := by decide +kernel
theorem dL_sets_123 : decode cL_sets 123 = .ok (.iconst 3, 1) := by decide +kernel
theorem dL_sets_124 : decode cL_sets 124 = .ok (.ishr, 1) := by decide +kernel
theorem dL_sets_125 : decode cL_sets 125 = .ok (.bipush 6, 2) := by decide +kernel
theorem dL_sets_127 : decode cL_sets 127 = .ok (.irem, 1) := by decide +kernel
theorem dL_sets_128 : decode cL_sets 128 = .ok (.iadd, 1) := by decide +kernel
theorem dL_sets_129 : decode cL_sets 129 = .ok (.invokevirtual 28, 3) := by decide +kernel
theorem dL_sets_132 : decode cL_sets 132 = .ok (.bipush 8, 2) := by decide +kernel
theorem dL_sets_134 : decode cL_sets 134 = .ok (.if_icmp .ne 54, 3) := by decide +kernel
theorem dL_sets_137 : decode cL_sets 137 = .ok (.aload_n 0, 1) := by decide +kernel
theorem dL_sets_138 : decode cL_sets 138 = .ok (.iconst 2, 1) := by decide +kernel
theorem dL_sets_139 : decode cL_sets 139 = .ok (.iconst 1, 1) := by decide +kernel
theorem dL_sets_140 : decode cL_sets 140 = .ok (.iload_n 3, 1) := by decide +kernel
theorem dL_sets_141 : decode cL_sets 141 = .ok (.bipush 7, 2) := by decide +kernel
theorem dL_sets_143 : decode cL_sets 143 = .ok (.ishr, 1) := by decide +kernel
theorem dL_sets_144 : decode cL_sets 144 = .ok (.iconst 3, 1) := by decide +kernel
theorem dL_sets_145 : decode cL_sets 145 = .ok (.irem, 1) := by decide +kernel
theorem dL_sets_146 : decode cL_sets 146 = .ok (.iadd, 1) := by decide +kernel
theorem dL_sets_147 : decode cL_sets 147 = .ok (.invokevirtual 28, 3) := by decide +kernel
theorem dL_sets_150 : decode cL_sets 150 = .ok (.iconst 1, 1) := by decide +kernel
theorem dL_sets_151 : decode cL_sets 151 = .ok (.if_icmp .ne 37, 3) := by decide +kernel
theorem dL_sets_154 : decode cL_sets 154 = .ok (.aload_n 0, 1) := by decide +kernel
theorem dL_sets_155 : decode cL_sets 155 = .ok (.iconst 3, 1) := by decide +kernel
theorem dL_sets_156 : decode cL_sets 156 = .ok (.iconst 1, 1) := by decide +kernel
theorem dL_sets_157 : decode cL_sets 157 = .ok (.iload_n 3, 1) := by decide +kernel
theorem dL_sets_158 : decode cL_sets 158 = .ok (.bipush 10, 2) := by decide +kernel
theorem dL_sets_160 : decode cL_sets 160 = .ok (.ishr, 1) := by decide +kernel
theorem dL_sets_161 : decode cL_sets 161 = .ok (.iconst 4, 1) := by decide +kernel
theorem dL_sets_162 : decode cL_sets 162 = .ok (.irem, 1) := by decide +kernel
theorem dL_sets_163 : decode cL_sets 163 = .ok (.iadd, 1) := by decide +kernel
theorem dL_sets_164 : decode cL_sets 164 = .ok (.invokevirtual 28, 3) := by decide +kernel
theorem dL_sets_167 : decode cL_sets 167 = .ok (.iconst 4, 1) := by decide +kernel
theorem dL_sets_168 : decode cL_sets 168 = .ok (.if_icmp .ne 20, 3) := by decide +kernel
theorem dL_sets_171 : decode cL_sets 171 = .ok (.aload_n 0, 1) := by decide +kernel
theorem dL_sets_172 : decode cL_sets 172 = .ok (.iload_n 3, 1) := by decide +kernel
theorem dL_sets_173 : decode cL_sets 173 = .ok (.bipush 13, 2) := by decide +kernel
theorem dL_sets_175 : decode cL_sets 175 = .ok (.ishr, 1) := by decide +kernel
theorem dL_sets_176 : decode cL_sets 176 = .ok (.iconst 4, 1) := by decide +kernel
theorem dL_sets_177 : decode cL_sets 177 = .ok (.irem, 1) := by decide +kernel
theorem dL_sets_178 : decode cL_sets 178 = .ok (.invokevirtual 31, 3) := by decide +kernel
theorem dL_sets_181 : decode cL_sets 181 = .ok (.ifCond .ne 7, 3) := by decide +kernel
theorem dL_sets_184 : decode cL_sets 184 = .ok (.iconst 1, 1) := by decide +kernel
theorem dL_sets_185 : decode cL_sets 185 = .ok (.goto 4, 3) := by decide +kernel
theorem dL_sets_188 : decode cL_sets 188 = .ok (.iconst 0, 1) := by decide +kernel
theorem dL_sets_189 : decode cL_sets 189 = .ok (.istore_n 2, 1) := by decide +kernel
theorem dL_sets_190 : decode cL_sets 190 = .ok (.iconst 0, 1) := by decide +kernel
theorem dL_sets_191 : decode cL_sets 191 = .ok (.istore 4, 2) := by decide +kernel
theorem dL_sets_193 : decode cL_sets 193 = .ok (.iload 4, 2) := by decide +kernel
theorem dL_sets_195 : decode cL_sets 195 = .ok (.iconst 3, 1) := by decide +kernel
theorem dL_sets_196 : decode cL_sets 196 = .ok (.if_icmp .ge 46, 3) := by decide +kernel
theorem dL_sets_199 : decode cL_sets 199 = .ok (.iload_n 2, 1) := by decide +kernel
theorem dL_sets_200 : decode cL_sets 200 = .ok (.ifCond .eq 34, 3) := by decide +kernel
theorem dL_sets_203 : decode cL_sets 203 = .ok (.aload_n 0, 1) := by decide +kernel
theorem dL_sets_204 : decode cL_sets 204 = .ok (.iload 4, 2) := by decide +kernel
theorem dL_sets_206 : decode cL_sets 206 = .ok (.iload_n 3, 1) := by decide +kernel
theorem dL_sets_207 : decode cL_sets 207 = .ok (.bipush 16, 2) := by decide +kernel
theorem dL_sets_209 : decode cL_sets 209 = .ok (.iload 4, 2) := by decide +kernel
theorem dL_sets_211 : decode cL_sets 211 = .ok (.iadd, 1) := by decide +kernel
theorem dL_sets_212 : decode cL_sets 212 = .ok (.ishr, 1) := by decide +kernel
theorem dL_sets_213 : decode cL_sets 213 = .ok (.iconst 1, 1) := by decide +kernel
theorem dL_sets_214 : decode cL_sets 214 = .ok (.iand, 1) := by decide +kernel
theorem dL_sets_215 : decode cL_sets 215 = .ok (.iconst 1, 1) := by decide +kernel
theorem dL_sets_216 : decode cL_sets 216 = .ok (.if_icmp .ne 7, 3) := by decide +kernel
theorem dL_sets_219 : decode cL_sets 219 = .ok (.iconst 1, 1) := by decide +kernel
theorem dL_sets_220 : decode cL_sets 220 = .ok (.goto 4, 3) := by decide +kernel
theorem dL_sets_223 : decode cL_sets 223 = .ok (.iconst 0, 1) := by decide +kernel
theorem dL_sets_224 : decode cL_sets 224 = .ok (.invokevirtual 35, 3) := by decide +kernel
theorem dL_sets_227 : decode cL_sets 227 = .ok (.ifCond .ne 7, 3) := by decide +kernel
theorem dL_sets_230 : decode cL_sets 230 = .ok (.iconst 1, 1) := by decide +kernel
theorem dL_sets_231 : decode cL_sets 231 = .ok (.goto 4, 3) := by decide +kernel
theorem dL_sets_234 : decode cL_sets 234 = .ok (.iconst 0, 1) := by decide +kernel
theorem dL_sets_235 : decode cL_sets 235 = .ok (.istore_n 2, 1) := by decide +kernel
theorem dL_sets_236 : decode cL_sets 236 = .ok (.iinc 4 1, 3) := by decide +kernel
theorem dL_sets_239 : decode cL_sets 239 = .ok (.goto (-46), 3) := by decide +kernel
theorem dL_sets_242 : decode cL_sets 242 = .ok (.iload_n 2, 1) := by decide +kernel
theorem dL_sets_243 : decode cL_sets 243 = .ok (.ifCond .eq 45, 3) := by decide +kernel
theorem dL_sets_246 : decode cL_sets 246 = .ok (.aload_n 0, 1) := by decide +kernel
theorem dL_sets_247 : decode cL_sets 247 = .ok (.iload_n 3, 1) := by decide +kernel
theorem dL_sets_248 : decode cL_sets 248 = .ok (.bipush 20, 2) := by decide +kernel
theorem dL_sets_250 : decode cL_sets 250 = .ok (.ishr, 1) := by decide +kernel
theorem dL_sets_251 : decode cL_sets 251 = .ok (.iconst 3, 1) := by decide +kernel
theorem dL_sets_252 : decode cL_sets 252 = .ok (.irem, 1) := by decide +kernel
theorem dL_sets_253 : decode cL_sets 253 = .ok (.iconst 1, 1) := by decide +kernel
theorem dL_sets_254 : decode cL_sets 254 = .ok (.iload_n 3, 1) := by decide +kernel
theorem dL_sets_255 : decode cL_sets 255 = .ok (.bipush 22, 2) := by decide +kernel
theorem dL_sets_257 : decode cL_sets 257 = .ok (.ishr, 1) := by decide +kernel
theorem dL_sets_258 : decode cL_sets 258 = .ok (.iconst 4, 1) := by decide +kernel
theorem dL_sets_259 : decode cL_sets 259 = .ok (.irem, 1) := by decide +kernel
theorem dL_sets_260 : decode cL_sets 260 = .ok (.iadd, 1) := by decide +kernel
theorem dL_sets_261 : decode cL_sets 261 = .ok (.iload_n 3, 1) := by decide +kernel
theorem dL_sets_262 : decode cL_sets 262 = .ok (.bipush 24, 2) := by decide +kernel
theorem dL_sets_264 : decode cL_sets 264 = .ok (.ishr, 1) := by decide +kernel
theorem dL_sets_265 : decode cL_sets 265 = .ok (.iconst 5, 1) := by decide +kernel
theorem dL_sets_266 : decode cL_sets 266 = .ok (.irem, 1) := by decide +kernel
theorem dL_sets_267 : decode cL_sets 267 = .ok (.bipush 6, 2) := by decide +kernel
theorem dL_sets_269 : decode cL_sets 269 = .ok (.invokevirtual 39, 3) := by decide +kernel
theorem dL_sets_272 : decode cL_sets 272 = .ok (.iload_n 3, 1) := by decide +kernel
theorem dL_sets_273 : decode cL_sets 273 = .ok (.bipush 24, 2) := by decide +kernel
theorem dL_sets_275 : decode cL_sets 275 = .ok (.ishr, 1) := by decide +kernel
theorem dL_sets_276 : decode cL_sets 276 = .ok (.iconst 5, 1) := by decide +kernel
theorem dL_sets_277 : decode cL_sets 277 = .ok (.irem, 1) := by decide +kernel
theorem dL_sets_278 : decode cL_sets 278 = .ok (.bipush 6, 2) := by decide +kernel
theorem dL_sets_280 : decode cL_sets 280 = .ok (.iadd, 1) := by decide +kernel
theorem dL_sets_281 : decode cL_sets 281 = .ok (.if_icmp .ne 7, 3) := by decide +kernel
theorem dL_sets_284 : decode cL_sets 284 = .ok (.iconst 1, 1) := by decide +kernel
theorem dL_sets_285 : decode cL_sets 285 = .ok (.goto 4, 3) := by decide +kernel
theorem dL_sets_288 : decode cL_sets 288 = .ok (.iconst 0, 1) := by decide +kernel
theorem dL_sets_289 : decode cL_sets 289 = .ok (.ireturn, 1) := by decide +kernel
def bfL_sets_289 (L : Nat) (xs : Nat → Int32) (s0 : Int32) (S : RS) : Option (Int32 × (RS)) :=
  (if s0 = 0 ∨ s0 = 1 then some (s0, S) else none)
def bfL_sets_288 (L : Nat) (xs : Nat → Int32) (S : RS) : Option (Int32 × (RS)) :=
  bfL_sets_289 L xs  ((0 : Int32)) S
def bfL_sets_235 (L : Nat) (xs : Nat → Int32) (K193 : Int32 × Int32 × Int32 × (RS) → Option (Int32 × (RS))) (x3 : Int32) (x4 : Int32) (s0 : Int32) (S : RS) : Option (Int32 × (RS)) :=
  K193 (s0, x3, (x4 + (1 : Int32)), S)
def bfL_sets_234 (L : Nat) (xs : Nat → Int32) (K193 : Int32 × Int32 × Int32 × (RS) → Option (Int32 × (RS))) (x3 : Int32) (x4 : Int32) (S : RS) : Option (Int32 × (RS)) :=
  bfL_sets_235 L xs K193 x3 x4 ((0 : Int32)) S
def bfL_sets_224 (L : Nat) (xs : Nat → Int32) (K193 : Int32 × Int32 × Int32 × (RS) → Option (Int32 × (RS))) (x3 : Int32) (x4 : Int32) (s1 : Int32) (s2 : Int32) (S : RS) : Option (Int32 × (RS)) :=
  ob (fX5_setSwitch s1 s2 S) fun u14 => (if u14.1 = 0 then bfL_sets_235 L xs K193 x3 x4 ((1 : Int32)) u14.2 else bfL_sets_234 L xs K193 x3 x4 u14.2)
def bfL_sets_193 (L : Nat) (xs : Nat → Int32) (K193 : Int32 × Int32 × Int32 × (RS) → Option (Int32 × (RS))) (x : Int32 × Int32 × Int32 × (RS)) : Option (Int32 × (RS)) :=
  match x with
  | (x2, x3, x4, S) => (if (3 : Int32) ≤ x4 then (if x2 = 0 then bfL_sets_288 L xs  S else ob (fX5_surge (((x3 >>> ((20 : Int32) &&& 31)) - (x3 >>> ((20 : Int32) &&& 31)) / (3 : Int32) * (3 : Int32))) (((1 : Int32) + ((x3 >>> ((22 : Int32) &&& 31)) - (x3 >>> ((22 : Int32) &&& 31)) / (4 : Int32) * (4 : Int32)))) (((x3 >>> ((24 : Int32) &&& 31)) - (x3 >>> ((24 : Int32) &&& 31)) / (5 : Int32) * (5 : Int32))) (6 : Int32) S) fun u15 => (if u15.1 = (((x3 >>> ((24 : Int32) &&& 31)) - (x3 >>> ((24 : Int32) &&& 31)) / (5 : Int32) * (5 : Int32)) + (6 : Int32)) then bfL_sets_289 L xs  ((1 : Int32)) u15.2 else bfL_sets_288 L xs  u15.2)) else (if x2 = 0 then bfL_sets_234 L xs K193 x3 x4 S else (if ((x3 >>> (((16 : Int32) + x4) &&& 31)) &&& (1 : Int32)) = (1 : Int32) then bfL_sets_224 L xs K193 x3 x4 x4 ((1 : Int32)) S else bfL_sets_224 L xs K193 x3 x4 x4 ((0 : Int32)) S)))
def bfL_sets_189 (L : Nat) (xs : Nat → Int32) (x3 : Int32) (s0 : Int32) (S : RS) : Option (Int32 × (RS)) :=
  iter (bfL_sets_193 L xs) FU (s0, x3, (0 : Int32), S)
def bfL_sets_188 (L : Nat) (xs : Nat → Int32) (x3 : Int32) (S : RS) : Option (Int32 × (RS)) :=
  bfL_sets_189 L xs  x3 ((0 : Int32)) S
def bfL_sets_81 (L : Nat) (xs : Nat → Int32) (K4 : Int32 × Int32 × (RS) → Option (Int32 × (RS))) (K12 : Int32 × Int32 × Int32 × (RS) → Option (Int32 × (RS))) (x3 : Int32) (x4 : Int32) (s0 : Int32) (S : RS) : Option (Int32 × (RS)) :=
  K12 (s0, x3, (x4 + (1 : Int32)), S)
def bfL_sets_80 (L : Nat) (xs : Nat → Int32) (K4 : Int32 × Int32 × (RS) → Option (Int32 × (RS))) (K12 : Int32 × Int32 × Int32 × (RS) → Option (Int32 × (RS))) (x3 : Int32) (x4 : Int32) (S : RS) : Option (Int32 × (RS)) :=
  bfL_sets_81 L xs K4 K12 x3 x4 ((0 : Int32)) S
def bfL_sets_12 (L : Nat) (xs : Nat → Int32) (K4 : Int32 × Int32 × (RS) → Option (Int32 × (RS))) (K12 : Int32 × Int32 × Int32 × (RS) → Option (Int32 × (RS))) (x : Int32 × Int32 × Int32 × (RS)) : Option (Int32 × (RS)) :=
  match x with
  | (x2, x3, x4, S) => (if (12 : Int32) ≤ x4 then K4 (x2, (x3 + (1 : Int32)), S) else ob (fL_cell L xs ((((12 : Int32) * x3) + x4))) fun u16 => ob (fL_value x4 u16) fun u17 => ob (fX5_property x3 x4 S) fun u18 => (if x2 = 0 then bfL_sets_80 L xs K4 K12 x3 x4 S else ob (fX5_set x3 x4 u17 S) fun u19 => (if u19.1 = u18 then ob (fX5_property x3 x4 u19.2) fun u20 => (if u20 = u17 then bfL_sets_81 L xs K4 K12 x3 x4 ((1 : Int32)) u19.2 else bfL_sets_80 L xs K4 K12 x3 x4 u19.2) else bfL_sets_80 L xs K4 K12 x3 x4 u19.2)))
def bfL_sets_4 (L : Nat) (xs : Nat → Int32) (K4 : Int32 × Int32 × (RS) → Option (Int32 × (RS))) (x : Int32 × Int32 × (RS)) : Option (Int32 × (RS)) :=
  match x with
  | (x2, x3, S) => (if (3 : Int32) ≤ x3 then ob (fL_cell L xs (36 : Int32)) fun u21 => (if x2 = 0 then bfL_sets_188 L xs  u21 S else ob (fX5_setServer (0 : Int32) (((1 : Int32) + (u21 - u21 / (4 : Int32) * (4 : Int32)))) S) fun u22 => (if u22.1 = (2 : Int32) then ob (fX5_setServer (1 : Int32) (((1 : Int32) + ((u21 >>> ((3 : Int32) &&& 31)) - (u21 >>> ((3 : Int32) &&& 31)) / (6 : Int32) * (6 : Int32)))) u22.2) fun u23 => (if u23.1 = (8 : Int32) then ob (fX5_setServer (2 : Int32) (((1 : Int32) + ((u21 >>> ((7 : Int32) &&& 31)) - (u21 >>> ((7 : Int32) &&& 31)) / (3 : Int32) * (3 : Int32)))) u23.2) fun u24 => (if u24.1 = (1 : Int32) then ob (fX5_setServer (3 : Int32) (((1 : Int32) + ((u21 >>> ((10 : Int32) &&& 31)) - (u21 >>> ((10 : Int32) &&& 31)) / (4 : Int32) * (4 : Int32)))) u24.2) fun u25 => (if u25.1 = (4 : Int32) then ob (fX5_setDiscipline (((u21 >>> ((13 : Int32) &&& 31)) - (u21 >>> ((13 : Int32) &&& 31)) / (4 : Int32) * (4 : Int32))) u25.2) fun u26 => (if u26.1 = 0 then bfL_sets_189 L xs  u21 ((1 : Int32)) u26.2 else bfL_sets_188 L xs  u21 u26.2) else bfL_sets_188 L xs  u21 u25.2) else bfL_sets_188 L xs  u21 u24.2) else bfL_sets_188 L xs  u21 u23.2) else bfL_sets_188 L xs  u21 u22.2)) else iter (bfL_sets_12 L xs K4) FU (x2, x3, (0 : Int32), S))
def fL_sets (L : Nat) (xs : Nat → Int32) (S : RS) : Option (Int32 × (RS)) :=
  iter (bfL_sets_4 L xs) FU ((1 : Int32), (0 : Int32), S)
set_option maxHeartbeats 4000000 in
set_option maxRecDepth 100000 in
theorem kL_sets (l : Launch) (D : va_G) (cI cS : ClassId) (b L : Nat) (xs : Nat → Int32) (aR : Nat → Nat)  (S : RS) {q : Int32 × (RS)} (h : fL_sets L xs S = some q) : Ms l D (tyL cI cS) b L xs yL_sets cL_sets 7 (some .boolean) 6 0 0 [.ref (aR 0), .ref b] (wR cI cS aR S) (some (.int q.1)) (wR cI cS aR q.2) := by
  refine Ms_of RL (by decide +kernel) rfl wc_L_sets (Nat.le_of_ble_eq_true rfl) ?_
  intro p e s m args below meth c A Q ls C hA hz hX hP hD hS hl RET
  have RETh : ∀ {pc : Nat} {ls : Array Slot} {H : Heap} {locs : List Loc} {x : Int32} {S1 : RS}, (x = 0 ∨ x = 1) → decode cL_sets pc = .ok (.ireturn, 1) → some (x, S1) = some q → va_P D vwCl (wR cI cS aR S1) H → va_D A (wR cI cS aR S1) → va_S A s.heap H locs → W p l e (rmN 6 0 0) s m args below meth c H locs 0 0 Q (F0 m pc ls [.int x]) := by
    intro pc ls H locs x S1 hx hd h hP hD hS; cases h; exact RET (x_zretN C hx hd) hP hD hS
  have B289 : ∀ (s0 : Int32) (S : RS), bfL_sets_289 L xs s0 S = some q → ∀ (H : Heap) (locs : List Loc) (ls : Array Slot), va_P D vwCl (wR cI cS aR S) H → va_D A (wR cI cS aR S) → va_S A s.heap H locs → lv_has ls 7 [] → W p l e (rmN 6 0 0) s m args below meth c H locs 0 0 Q (F0 m 289 ls [.int s0]) := by
    intro s0 S h H locs ls hP hD hS hl
    rcases x_ifn h with ⟨hc, h⟩
    exact RETh hc dL_sets_289 h hP hD hS
  have B288 : ∀ (S : RS), bfL_sets_288 L xs S = some q → ∀ (H : Heap) (locs : List Loc) (ls : Array Slot), va_P D vwCl (wR cI cS aR S) H → va_D A (wR cI cS aR S) → va_S A s.heap H locs → lv_has ls 7 [] → W p l e (rmN 6 0 0) s m args below meth c H locs 0 0 Q (F0 m 288 ls []) := by
    intro S h H locs ls hP hD hS hl
    refine x_iconst (v := (0 : Int32)) C dL_sets_288 (by decide) ?_
    exact B289 _ _ h _ _ _ hP hD hS hl
  have B235 : ∀ (K193 : Int32 × Int32 × Int32 × (RS) → Option (Int32 × (RS))) (ih193 : ∀ x, K193 x = some q → (match x with | (x2, x3, x4, S) => ∀ (H : Heap) (locs : List Loc) (ls : Array Slot), va_P D vwCl (wR cI cS aR S) H → va_D A (wR cI cS aR S) → va_S A s.heap H locs → lv_has ls 7 [(0, .ref (aR 0)), (2, .int x2), (3, .int x3), (4, .int x4)] → W p l e (rmN 6 0 0) s m args below meth c H locs 0 0 Q (F0 m 193 ls []))) (x3 : Int32) (x4 : Int32) (s0 : Int32) (S : RS), bfL_sets_235 L xs K193 x3 x4 s0 S = some q → ∀ (H : Heap) (locs : List Loc) (ls : Array Slot), va_P D vwCl (wR cI cS aR S) H → va_D A (wR cI cS aR S) → va_S A s.heap H locs → lv_has ls 7 [(0, .ref (aR 0)), (3, .int x3), (4, .int x4)] → W p l e (rmN 6 0 0) s m args below meth c H locs 0 0 Q (F0 m 235 ls [.int s0]) := by
    intro K193 ih193 x3 x4 s0 S h H locs ls hP hD hS hl
    refine x_istore_n (lv' := [(2, .int s0), (0, .ref (aR 0)), (3, .int x3), (4, .int x4)]) C dL_sets_235 rfl hl (by decide) rfl (fun ls hl => ?_)
    refine x_iinc (v := (x4 + (1 : Int32))) (lv' := [(4, .int (x4 + (1 : Int32))), (2, .int s0), (0, .ref (aR 0)), (3, .int x3)]) C dL_sets_236 hl (k := 3) rfl rfl (by decide) rfl (fun ls hl => ?_)
    refine x_goto (tgt := 193) C dL_sets_239 (by decide) ?_
    exact ih193 _ h _ _ _ hP hD hS (lv_sub hl [2, 1, 3, 0] rfl)
  have B234 : ∀ (K193 : Int32 × Int32 × Int32 × (RS) → Option (Int32 × (RS))) (ih193 : ∀ x, K193 x = some q → (match x with | (x2, x3, x4, S) => ∀ (H : Heap) (locs : List Loc) (ls : Array Slot), va_P D vwCl (wR cI cS aR S) H → va_D A (wR cI cS aR S) → va_S A s.heap H locs → lv_has ls 7 [(0, .ref (aR 0)), (2, .int x2), (3, .int x3), (4, .int x4)] → W p l e (rmN 6 0 0) s m args below meth c H locs 0 0 Q (F0 m 193 ls []))) (x3 : Int32) (x4 : Int32) (S : RS), bfL_sets_234 L xs K193 x3 x4 S = some q → ∀ (H : Heap) (locs : List Loc) (ls : Array Slot), va_P D vwCl (wR cI cS aR S) H → va_D A (wR cI cS aR S) → va_S A s.heap H locs → lv_has ls 7 [(0, .ref (aR 0)), (3, .int x3), (4, .int x4)] → W p l e (rmN 6 0 0) s m args below meth c H locs 0 0 Q (F0 m 234 ls []) := by
    intro K193 ih193 x3 x4 S h H locs ls hP hD hS hl
    refine x_iconst (v := (0 : Int32)) C dL_sets_234 (by decide) ?_
    exact B235 K193 ih193 _ _ _ _ h _ _ _ hP hD hS hl
  have B224 : ∀ (K193 : Int32 × Int32 × Int32 × (RS) → Option (Int32 × (RS))) (ih193 : ∀ x, K193 x = some q → (match x with | (x2, x3, x4, S) => ∀ (H : Heap) (locs : List Loc) (ls : Array Slot), va_P D vwCl (wR cI cS aR S) H → va_D A (wR cI cS aR S) → va_S A s.heap H locs → lv_has ls 7 [(0, .ref (aR 0)), (2, .int x2), (3, .int x3), (4, .int x4)] → W p l e (rmN 6 0 0) s m args below meth c H locs 0 0 Q (F0 m 193 ls []))) (x3 : Int32) (x4 : Int32) (s1 : Int32) (s2 : Int32) (S : RS), bfL_sets_224 L xs K193 x3 x4 s1 s2 S = some q → ∀ (H : Heap) (locs : List Loc) (ls : Array Slot), va_P D vwCl (wR cI cS aR S) H → va_D A (wR cI cS aR S) → va_S A s.heap H locs → lv_has ls 7 [(0, .ref (aR 0)), (3, .int x3), (4, .int x4)] → W p l e (rmN 6 0 0) s m args below meth c H locs 0 0 Q (F0 m 224 ls [.int s2, .int s1, .ref (aR 0)]) := by
    intro K193 ih193 x3 x4 s1 s2 S h H locs ls hP hD hS hl
    obtain ⟨u14, hu14, h⟩ := ob_some h
    refine x_callV (As := [.int _, .int _]) (n := 2) C (kX5_setSwitch l D cI cS aR _ _ _ hu14) (fun hh => nomatch hh) wm_L_35 wi_X5_setSwitch we_X5_setSwitch wz_X5 wc_X5_setSwitch (by decide +kernel) rfl hP hD hS hA 0 2 rfl rfl rfl hl.1 dL_sets_224 rfl (Nat.le_of_ble_eq_true rfl) ⟨Nat.le_of_ble_eq_true rfl, Nat.le_of_ble_eq_true rfl⟩ ⟨Nat.zero_le _, Nat.zero_le _⟩ (fun H locs hP hD hS => ?_)
    refine x_if_ne (tgt := 234) C h dL_sets_227 (by decide) (fun h => ?_) (fun h => ?_)
    · exact B234 K193 ih193 _ _ _ h _ _ _ hP hD hS hl
    · refine x_iconst (v := (1 : Int32)) C dL_sets_230 (by decide) ?_
      refine x_goto (tgt := 235) C dL_sets_231 (by decide) ?_
      exact B235 K193 ih193 _ _ _ _ h _ _ _ hP hD hS hl
  have B193 : ∀ (n : Nat) (x : Int32 × Int32 × Int32 × (RS)), iter (bfL_sets_193 L xs) n x = some q → (match x with | (x2, x3, x4, S) => ∀ (H : Heap) (locs : List Loc) (ls : Array Slot), va_P D vwCl (wR cI cS aR S) H → va_D A (wR cI cS aR S) → va_S A s.heap H locs → lv_has ls 7 [(0, .ref (aR 0)), (2, .int x2), (3, .int x3), (4, .int x4)] → W p l e (rmN 6 0 0) s m args below meth c H locs 0 0 Q (F0 m 193 ls [])) := by
    refine iter_ind (fun x : Int32 × Int32 × Int32 × (RS) => (match x with | (x2, x3, x4, S) => ∀ (H : Heap) (locs : List Loc) (ls : Array Slot), va_P D vwCl (wR cI cS aR S) H → va_D A (wR cI cS aR S) → va_S A s.heap H locs → lv_has ls 7 [(0, .ref (aR 0)), (2, .int x2), (3, .int x3), (4, .int x4)] → W p l e (rmN 6 0 0) s m args below meth c H locs 0 0 Q (F0 m 193 ls []))) ?_
    intro K193 ih193 x h
    obtain ⟨x2, x3, x4, S⟩ := x
    intro H locs ls hP hD hS hl
    refine x_iload C dL_sets_193 hl 3 rfl ?_
    refine x_iconst (v := (3 : Int32)) C dL_sets_195 (by decide) ?_
    refine x_icmp_ge (tgt := 242) C h dL_sets_196 (by decide) (fun h => ?_) (fun h => ?_)
    · refine x_iload_n C dL_sets_242 rfl hl 1 rfl ?_
      refine x_if_eq (tgt := 288) C h dL_sets_243 (by decide) (fun h => ?_) (fun h => ?_)
      · exact B288 _ h _ _ _ hP hD hS (lv_sub hl [] rfl)
      · refine x_aload_n C dL_sets_246 rfl hl 0 rfl ?_
        refine x_iload_n C dL_sets_247 rfl hl 2 rfl ?_
        refine x_bipush (v := (20 : Int32)) C dL_sets_248 (by decide) ?_
        refine x_ishr C dL_sets_250 ?_
        refine x_iconst (v := (3 : Int32)) C dL_sets_251 (by decide) ?_
        refine x_iremK C (by decide) dL_sets_252 ?_
        refine x_iconst (v := (1 : Int32)) C dL_sets_253 (by decide) ?_
        refine x_iload_n C dL_sets_254 rfl hl 2 rfl ?_
        refine x_bipush (v := (22 : Int32)) C dL_sets_255 (by decide) ?_
        refine x_ishr C dL_sets_257 ?_
        refine x_iconst (v := (4 : Int32)) C dL_sets_258 (by decide) ?_
        refine x_iremK C (by decide) dL_sets_259 ?_
        refine x_iadd C dL_sets_260 ?_
        refine x_iload_n C dL_sets_261 rfl hl 2 rfl ?_
        refine x_bipush (v := (24 : Int32)) C dL_sets_262 (by decide) ?_
        refine x_ishr C dL_sets_264 ?_
        refine x_iconst (v := (5 : Int32)) C dL_sets_265 (by decide) ?_
        refine x_iremK C (by decide) dL_sets_266 ?_
        refine x_bipush (v := (6 : Int32)) C dL_sets_267 (by decide) ?_
        obtain ⟨u15, hu15, h⟩ := ob_some h
        refine x_callV (As := [.int _, .int _, .int _, .int _]) (n := 4) C (kX5_surge l D cI cS aR _ _ _ _ _ hu15) (fun hh => nomatch hh) wm_L_39 wi_X5_surge we_X5_surge wz_X5 wc_X5_surge (by decide +kernel) rfl hP hD hS hA 0 2 rfl rfl rfl hl.1 dL_sets_269 rfl (Nat.le_of_ble_eq_true rfl) ⟨Nat.le_of_ble_eq_true rfl, Nat.le_of_ble_eq_true rfl⟩ ⟨Nat.zero_le _, Nat.zero_le _⟩ (fun H locs hP hD hS => ?_)
        refine x_iload_n C dL_sets_272 rfl hl 2 rfl ?_
        refine x_bipush (v := (24 : Int32)) C dL_sets_273 (by decide) ?_
        refine x_ishr C dL_sets_275 ?_
        refine x_iconst (v := (5 : Int32)) C dL_sets_276 (by decide) ?_
        refine x_iremK C (by decide) dL_sets_277 ?_
        refine x_bipush (v := (6 : Int32)) C dL_sets_278 (by decide) ?_
        refine x_iadd C dL_sets_280 ?_
        refine x_icmp_ne (tgt := 288) C h dL_sets_281 (by decide) (fun h => ?_) (fun h => ?_)
        · exact B288 _ h _ _ _ hP hD hS (lv_sub hl [] rfl)
        · refine x_iconst (v := (1 : Int32)) C dL_sets_284 (by decide) ?_
          refine x_goto (tgt := 289) C dL_sets_285 (by decide) ?_
          exact B289 _ _ h _ _ _ hP hD hS (lv_sub hl [] rfl)
    · refine x_iload_n C dL_sets_199 rfl hl 1 rfl ?_
      refine x_if_eq (tgt := 234) C h dL_sets_200 (by decide) (fun h => ?_) (fun h => ?_)
      · exact B234 K193 ih193 _ _ _ h _ _ _ hP hD hS (lv_sub hl [0, 2, 3] rfl)
      · refine x_aload_n C dL_sets_203 rfl hl 0 rfl ?_
        refine x_iload C dL_sets_204 hl 3 rfl ?_
        refine x_iload_n C dL_sets_206 rfl hl 2 rfl ?_
        refine x_bipush (v := (16 : Int32)) C dL_sets_207 (by decide) ?_
        refine x_iload C dL_sets_209 hl 3 rfl ?_
        refine x_iadd C dL_sets_211 ?_
        refine x_ishr C dL_sets_212 ?_
        refine x_iconst (v := (1 : Int32)) C dL_sets_213 (by decide) ?_
        refine x_iand C dL_sets_214 ?_
        refine x_iconst (v := (1 : Int32)) C dL_sets_215 (by decide) ?_
        refine x_icmp_ne (tgt := 223) C h dL_sets_216 (by decide) (fun h => ?_) (fun h => ?_)
        · refine x_iconst (v := (0 : Int32)) C dL_sets_223 (by decide) ?_
          exact B224 K193 ih193 _ _ _ _ _ h _ _ _ hP hD hS (lv_sub hl [0, 2, 3] rfl)
        · refine x_iconst (v := (1 : Int32)) C dL_sets_219 (by decide) ?_
          refine x_goto (tgt := 224) C dL_sets_220 (by decide) ?_
          exact B224 K193 ih193 _ _ _ _ _ h _ _ _ hP hD hS (lv_sub hl [0, 2, 3] rfl)
  have B189 : ∀ (x3 : Int32) (s0 : Int32) (S : RS), bfL_sets_189 L xs x3 s0 S = some q → ∀ (H : Heap) (locs : List Loc) (ls : Array Slot), va_P D vwCl (wR cI cS aR S) H → va_D A (wR cI cS aR S) → va_S A s.heap H locs → lv_has ls 7 [(0, .ref (aR 0)), (3, .int x3)] → W p l e (rmN 6 0 0) s m args below meth c H locs 0 0 Q (F0 m 189 ls [.int s0]) := by
    intro x3 s0 S h H locs ls hP hD hS hl
    refine x_istore_n (lv' := [(2, .int s0), (0, .ref (aR 0)), (3, .int x3)]) C dL_sets_189 rfl hl (by decide) rfl (fun ls hl => ?_)
    refine x_iconst (v := (0 : Int32)) C dL_sets_190 (by decide) ?_
    refine x_istore (lv' := [(4, .int (0 : Int32)), (2, .int s0), (0, .ref (aR 0)), (3, .int x3)]) C dL_sets_191 hl (by decide) rfl (fun ls hl => ?_)
    exact B193 FU _ h _ _ _ hP hD hS (lv_sub hl [2, 1, 3, 0] rfl)
  have B188 : ∀ (x3 : Int32) (S : RS), bfL_sets_188 L xs x3 S = some q → ∀ (H : Heap) (locs : List Loc) (ls : Array Slot), va_P D vwCl (wR cI cS aR S) H → va_D A (wR cI cS aR S) → va_S A s.heap H locs → lv_has ls 7 [(0, .ref (aR 0)), (3, .int x3)] → W p l e (rmN 6 0 0) s m args below meth c H locs 0 0 Q (F0 m 188 ls []) := by
    intro x3 S h H locs ls hP hD hS hl
    refine x_iconst (v := (0 : Int32)) C dL_sets_188 (by decide) ?_
    exact B189 _ _ _ h _ _ _ hP hD hS hl
  have B81 : ∀ (K4 : Int32 × Int32 × (RS) → Option (Int32 × (RS))) (ih4 : ∀ x, K4 x = some q → (match x with | (x2, x3, S) => ∀ (H : Heap) (locs : List Loc) (ls : Array Slot), va_P D vwCl (wR cI cS aR S) H → va_D A (wR cI cS aR S) → va_S A s.heap H locs → lv_has ls 7 [(0, .ref (aR 0)), (1, .ref b), (2, .int x2), (3, .int x3)] → W p l e (rmN 6 0 0) s m args below meth c H locs 0 0 Q (F0 m 4 ls []))) (K12 : Int32 × Int32 × Int32 × (RS) → Option (Int32 × (RS))) (ih12 : ∀ x, K12 x = some q → (match x with | (x2, x3, x4, S) => ∀ (H : Heap) (locs : List Loc) (ls : Array Slot), va_P D vwCl (wR cI cS aR S) H → va_D A (wR cI cS aR S) → va_S A s.heap H locs → lv_has ls 7 [(0, .ref (aR 0)), (1, .ref b), (2, .int x2), (3, .int x3), (4, .int x4)] → W p l e (rmN 6 0 0) s m args below meth c H locs 0 0 Q (F0 m 12 ls []))) (x3 : Int32) (x4 : Int32) (s0 : Int32) (S : RS), bfL_sets_81 L xs K4 K12 x3 x4 s0 S = some q → ∀ (H : Heap) (locs : List Loc) (ls : Array Slot), va_P D vwCl (wR cI cS aR S) H → va_D A (wR cI cS aR S) → va_S A s.heap H locs → lv_has ls 7 [(0, .ref (aR 0)), (1, .ref b), (3, .int x3), (4, .int x4)] → W p l e (rmN 6 0 0) s m args below meth c H locs 0 0 Q (F0 m 81 ls [.int s0]) := by
    intro K4 ih4 K12 ih12 x3 x4 s0 S h H locs ls hP hD hS hl
    refine x_istore_n (lv' := [(2, .int s0), (0, .ref (aR 0)), (1, .ref b), (3, .int x3), (4, .int x4)]) C dL_sets_81 rfl hl (by decide) rfl (fun ls hl => ?_)
    refine x_iinc (v := (x4 + (1 : Int32))) (lv' := [(4, .int (x4 + (1 : Int32))), (2, .int s0), (0, .ref (aR 0)), (1, .ref b), (3, .int x3)]) C dL_sets_82 hl (k := 4) rfl rfl (by decide) rfl (fun ls hl => ?_)
    refine x_goto (tgt := 12) C dL_sets_85 (by decide) ?_
    exact ih12 _ h _ _ _ hP hD hS (lv_sub hl [2, 3, 1, 4, 0] rfl)
  have B80 : ∀ (K4 : Int32 × Int32 × (RS) → Option (Int32 × (RS))) (ih4 : ∀ x, K4 x = some q → (match x with | (x2, x3, S) => ∀ (H : Heap) (locs : List Loc) (ls : Array Slot), va_P D vwCl (wR cI cS aR S) H → va_D A (wR cI cS aR S) → va_S A s.heap H locs → lv_has ls 7 [(0, .ref (aR 0)), (1, .ref b), (2, .int x2), (3, .int x3)] → W p l e (rmN 6 0 0) s m args below meth c H locs 0 0 Q (F0 m 4 ls []))) (K12 : Int32 × Int32 × Int32 × (RS) → Option (Int32 × (RS))) (ih12 : ∀ x, K12 x = some q → (match x with | (x2, x3, x4, S) => ∀ (H : Heap) (locs : List Loc) (ls : Array Slot), va_P D vwCl (wR cI cS aR S) H → va_D A (wR cI cS aR S) → va_S A s.heap H locs → lv_has ls 7 [(0, .ref (aR 0)), (1, .ref b), (2, .int x2), (3, .int x3), (4, .int x4)] → W p l e (rmN 6 0 0) s m args below meth c H locs 0 0 Q (F0 m 12 ls []))) (x3 : Int32) (x4 : Int32) (S : RS), bfL_sets_80 L xs K4 K12 x3 x4 S = some q → ∀ (H : Heap) (locs : List Loc) (ls : Array Slot), va_P D vwCl (wR cI cS aR S) H → va_D A (wR cI cS aR S) → va_S A s.heap H locs → lv_has ls 7 [(0, .ref (aR 0)), (1, .ref b), (3, .int x3), (4, .int x4)] → W p l e (rmN 6 0 0) s m args below meth c H locs 0 0 Q (F0 m 80 ls []) := by
    intro K4 ih4 K12 ih12 x3 x4 S h H locs ls hP hD hS hl
    refine x_iconst (v := (0 : Int32)) C dL_sets_80 (by decide) ?_
    exact B81 K4 ih4 K12 ih12 _ _ _ _ h _ _ _ hP hD hS hl
  have B12 : ∀ (K4 : Int32 × Int32 × (RS) → Option (Int32 × (RS))) (ih4 : ∀ x, K4 x = some q → (match x with | (x2, x3, S) => ∀ (H : Heap) (locs : List Loc) (ls : Array Slot), va_P D vwCl (wR cI cS aR S) H → va_D A (wR cI cS aR S) → va_S A s.heap H locs → lv_has ls 7 [(0, .ref (aR 0)), (1, .ref b), (2, .int x2), (3, .int x3)] → W p l e (rmN 6 0 0) s m args below meth c H locs 0 0 Q (F0 m 4 ls []))) (n : Nat) (x : Int32 × Int32 × Int32 × (RS)), iter (bfL_sets_12 L xs K4) n x = some q → (match x with | (x2, x3, x4, S) => ∀ (H : Heap) (locs : List Loc) (ls : Array Slot), va_P D vwCl (wR cI cS aR S) H → va_D A (wR cI cS aR S) → va_S A s.heap H locs → lv_has ls 7 [(0, .ref (aR 0)), (1, .ref b), (2, .int x2), (3, .int x3), (4, .int x4)] → W p l e (rmN 6 0 0) s m args below meth c H locs 0 0 Q (F0 m 12 ls [])) := by
    intro K4 ih4
    refine iter_ind (fun x : Int32 × Int32 × Int32 × (RS) => (match x with | (x2, x3, x4, S) => ∀ (H : Heap) (locs : List Loc) (ls : Array Slot), va_P D vwCl (wR cI cS aR S) H → va_D A (wR cI cS aR S) → va_S A s.heap H locs → lv_has ls 7 [(0, .ref (aR 0)), (1, .ref b), (2, .int x2), (3, .int x3), (4, .int x4)] → W p l e (rmN 6 0 0) s m args below meth c H locs 0 0 Q (F0 m 12 ls []))) ?_
    intro K12 ih12 x h
    obtain ⟨x2, x3, x4, S⟩ := x
    intro H locs ls hP hD hS hl
    refine x_iload C dL_sets_12 hl 4 rfl ?_
    refine x_bipush (v := (12 : Int32)) C dL_sets_14 (by decide) ?_
    refine x_icmp_ge (tgt := 88) C h dL_sets_16 (by decide) (fun h => ?_) (fun h => ?_)
    · refine x_iinc (v := (x3 + (1 : Int32))) (lv' := [(3, .int (x3 + (1 : Int32))), (0, .ref (aR 0)), (1, .ref b), (2, .int x2), (4, .int x4)]) C dL_sets_88 hl (k := 3) rfl rfl (by decide) rfl (fun ls hl => ?_)
      refine x_goto (tgt := 4) C dL_sets_91 (by decide) ?_
      exact ih4 _ h _ _ _ hP hD hS (lv_sub hl [1, 2, 3, 0] rfl)
    · refine x_iload C dL_sets_19 hl 4 rfl ?_
      refine x_aload_n C dL_sets_21 rfl hl 1 rfl ?_
      refine x_bipush (v := (12 : Int32)) C dL_sets_22 (by decide) ?_
      refine x_iload_n C dL_sets_24 rfl hl 3 rfl ?_
      refine x_imul C dL_sets_25 ?_
      refine x_iload C dL_sets_26 hl 4 rfl ?_
      refine x_iadd C dL_sets_28 ?_
      obtain ⟨u16, hu16, h⟩ := ob_some h
      refine x_callM (As := [.ref _, .int _]) (n := 2) (b := b) (L := L) (xs := xs) C (kL_cell l D cI cS b L xs (wR cI cS aR S) _ hu16) hz hX wm_L_9 wt_L_cell wz_L wc_L_cell (by decide +kernel) rfl hP hD hS hA hl.1 dL_sets_29 rfl (Nat.le_of_ble_eq_true rfl) ⟨Nat.le_of_ble_eq_true rfl, Nat.le_of_ble_eq_true rfl⟩ ⟨Nat.zero_le _, Nat.zero_le _⟩ (fun H locs hP hD hS => ?_)
      obtain ⟨u17, hu17, h⟩ := ob_some h
      refine x_callS (As := [.int _, .int _]) (n := 2) C (kL_value l D cI cS (wR cI cS aR S) _ _ hu17) (fun hh => nomatch hh) wm_L_15 wt_L_value wz_L wc_L_value (by decide +kernel) rfl hP hD hS hA hl.1 dL_sets_32 rfl (Nat.le_of_ble_eq_true rfl) ⟨Nat.le_of_ble_eq_true rfl, Nat.le_of_ble_eq_true rfl⟩ ⟨Nat.zero_le _, Nat.zero_le _⟩ (fun H locs hP hD hS => ?_)
      refine x_istore (lv' := [(5, .int u17), (0, .ref (aR 0)), (1, .ref b), (2, .int x2), (3, .int x3), (4, .int x4)]) C dL_sets_35 hl (by decide) rfl (fun ls hl => ?_)
      refine x_aload_n C dL_sets_37 rfl hl 1 rfl ?_
      refine x_iload_n C dL_sets_38 rfl hl 4 rfl ?_
      refine x_iload C dL_sets_39 hl 5 rfl ?_
      obtain ⟨u18, hu18, h⟩ := ob_some h
      refine x_callV (As := [.int _, .int _]) (n := 2) C (kX5_property l D cI cS aR _ _ _ hu18) (fun hh => nomatch hh) wm_L_19 wi_X5_property we_X5_property wz_X5 wc_X5_property (by decide +kernel) rfl hP hD hS hA 0 2 rfl rfl rfl hl.1 dL_sets_41 rfl (Nat.le_of_ble_eq_true rfl) ⟨Nat.le_of_ble_eq_true rfl, Nat.le_of_ble_eq_true rfl⟩ ⟨Nat.zero_le _, Nat.zero_le _⟩ (fun H locs hP hD hS => ?_)
      refine x_istore (lv' := [(6, .int u18), (5, .int u17), (0, .ref (aR 0)), (1, .ref b), (2, .int x2), (3, .int x3), (4, .int x4)]) C dL_sets_44 hl (by decide) rfl (fun ls hl => ?_)
      refine x_iload_n C dL_sets_46 rfl hl 4 rfl ?_
      refine x_if_eq (tgt := 80) C h dL_sets_47 (by decide) (fun h => ?_) (fun h => ?_)
      · exact B80 K4 ih4 K12 ih12 _ _ _ h _ _ _ hP hD hS (lv_sub hl [2, 3, 5, 6] rfl)
      · refine x_aload_n C dL_sets_50 rfl hl 2 rfl ?_
        refine x_iload_n C dL_sets_51 rfl hl 5 rfl ?_
        refine x_iload C dL_sets_52 hl 6 rfl ?_
        refine x_iload C dL_sets_54 hl 1 rfl ?_
        obtain ⟨u19, hu19, h⟩ := ob_some h
        refine x_callV (As := [.int _, .int _, .int _]) (n := 3) C (kX5_set l D cI cS aR _ _ _ _ hu19) (fun _ => hz) wm_L_24 wi_X5_set we_X5_set wz_X5 wc_X5_set (by decide +kernel) rfl hP hD hS hA 0 2 rfl rfl rfl hl.1 dL_sets_56 rfl (Nat.le_of_ble_eq_true rfl) ⟨Nat.le_of_ble_eq_true rfl, Nat.le_of_ble_eq_true rfl⟩ ⟨Nat.zero_le _, Nat.zero_le _⟩ (fun H locs hP hD hS => ?_)
        refine x_iload C dL_sets_59 hl 0 rfl ?_
        refine x_icmp_ne (tgt := 80) C h dL_sets_61 (by decide) (fun h => ?_) (fun h => ?_)
        · exact B80 K4 ih4 K12 ih12 _ _ _ h _ _ _ hP hD hS (lv_sub hl [2, 3, 5, 6] rfl)
        · refine x_aload_n C dL_sets_64 rfl hl 2 rfl ?_
          refine x_iload_n C dL_sets_65 rfl hl 5 rfl ?_
          refine x_iload C dL_sets_66 hl 6 rfl ?_
          obtain ⟨u20, hu20, h⟩ := ob_some h
          refine x_callV (As := [.int _, .int _]) (n := 2) C (kX5_property l D cI cS aR _ _ _ hu20) (fun hh => nomatch hh) wm_L_19 wi_X5_property we_X5_property wz_X5 wc_X5_property (by decide +kernel) rfl hP hD hS hA 0 2 rfl rfl rfl hl.1 dL_sets_68 rfl (Nat.le_of_ble_eq_true rfl) ⟨Nat.le_of_ble_eq_true rfl, Nat.le_of_ble_eq_true rfl⟩ ⟨Nat.zero_le _, Nat.zero_le _⟩ (fun H locs hP hD hS => ?_)
          refine x_iload C dL_sets_71 hl 1 rfl ?_
          refine x_icmp_ne (tgt := 80) C h dL_sets_73 (by decide) (fun h => ?_) (fun h => ?_)
          · exact B80 K4 ih4 K12 ih12 _ _ _ h _ _ _ hP hD hS (lv_sub hl [2, 3, 5, 6] rfl)
          · refine x_iconst (v := (1 : Int32)) C dL_sets_76 (by decide) ?_
            refine x_goto (tgt := 81) C dL_sets_77 (by decide) ?_
            exact B81 K4 ih4 K12 ih12 _ _ _ _ h _ _ _ hP hD hS (lv_sub hl [2, 3, 5, 6] rfl)
  have B4 : ∀ (n : Nat) (x : Int32 × Int32 × (RS)), iter (bfL_sets_4 L xs) n x = some q → (match x with | (x2, x3, S) => ∀ (H : Heap) (locs : List Loc) (ls : Array Slot), va_P D vwCl (wR cI cS aR S) H → va_D A (wR cI cS aR S) → va_S A s.heap H locs → lv_has ls 7 [(0, .ref (aR 0)), (1, .ref b), (2, .int x2), (3, .int x3)] → W p l e (rmN 6 0 0) s m args below meth c H locs 0 0 Q (F0 m 4 ls [])) := by
    refine iter_ind (fun x : Int32 × Int32 × (RS) => (match x with | (x2, x3, S) => ∀ (H : Heap) (locs : List Loc) (ls : Array Slot), va_P D vwCl (wR cI cS aR S) H → va_D A (wR cI cS aR S) → va_S A s.heap H locs → lv_has ls 7 [(0, .ref (aR 0)), (1, .ref b), (2, .int x2), (3, .int x3)] → W p l e (rmN 6 0 0) s m args below meth c H locs 0 0 Q (F0 m 4 ls []))) ?_
    intro K4 ih4 x h
    obtain ⟨x2, x3, S⟩ := x
    intro H locs ls hP hD hS hl
    refine x_iload_n C dL_sets_4 rfl hl 3 rfl ?_
    refine x_iconst (v := (3 : Int32)) C dL_sets_5 (by decide) ?_
    refine x_icmp_ge (tgt := 94) C h dL_sets_6 (by decide) (fun h => ?_) (fun h => ?_)
    · refine x_aload_n C dL_sets_94 rfl hl 1 rfl ?_
      refine x_bipush (v := (36 : Int32)) C dL_sets_95 (by decide) ?_
      obtain ⟨u21, hu21, h⟩ := ob_some h
      refine x_callM (As := [.ref _, .int _]) (n := 2) (b := b) (L := L) (xs := xs) C (kL_cell l D cI cS b L xs (wR cI cS aR S) _ hu21) hz hX wm_L_9 wt_L_cell wz_L wc_L_cell (by decide +kernel) rfl hP hD hS hA hl.1 dL_sets_97 rfl (Nat.le_of_ble_eq_true rfl) ⟨Nat.le_of_ble_eq_true rfl, Nat.le_of_ble_eq_true rfl⟩ ⟨Nat.zero_le _, Nat.zero_le _⟩ (fun H locs hP hD hS => ?_)
      refine x_istore_n (lv' := [(3, .int u21), (0, .ref (aR 0)), (1, .ref b), (2, .int x2)]) C dL_sets_100 rfl hl (by decide) rfl (fun ls hl => ?_)
      refine x_iload_n C dL_sets_101 rfl hl 3 rfl ?_
      refine x_if_eq (tgt := 188) C h dL_sets_102 (by decide) (fun h => ?_) (fun h => ?_)
      · exact B188 _ _ h _ _ _ hP hD hS (lv_sub hl [1, 0] rfl)
      · refine x_aload_n C dL_sets_105 rfl hl 1 rfl ?_
        refine x_iconst (v := (0 : Int32)) C dL_sets_106 (by decide) ?_
        refine x_iconst (v := (1 : Int32)) C dL_sets_107 (by decide) ?_
        refine x_iload_n C dL_sets_108 rfl hl 0 rfl ?_
        refine x_iconst (v := (4 : Int32)) C dL_sets_109 (by decide) ?_
        refine x_iremK C (by decide) dL_sets_110 ?_
        refine x_iadd C dL_sets_111 ?_
        obtain ⟨u22, hu22, h⟩ := ob_some h
        refine x_callV (As := [.int _, .int _]) (n := 2) C (kX5_setServer l D cI cS aR _ _ _ hu22) (fun hh => nomatch hh) wm_L_28 wi_X5_setServer we_X5_setServer wz_X5 wc_X5_setServer (by decide +kernel) rfl hP hD hS hA 0 2 rfl rfl rfl hl.1 dL_sets_112 rfl (Nat.le_of_ble_eq_true rfl) ⟨Nat.le_of_ble_eq_true rfl, Nat.le_of_ble_eq_true rfl⟩ ⟨Nat.zero_le _, Nat.zero_le _⟩ (fun H locs hP hD hS => ?_)
        refine x_iconst (v := (2 : Int32)) C dL_sets_115 (by decide) ?_
        refine x_icmp_ne (tgt := 188) C h dL_sets_116 (by decide) (fun h => ?_) (fun h => ?_)
        · exact B188 _ _ h _ _ _ hP hD hS (lv_sub hl [1, 0] rfl)
        · refine x_aload_n C dL_sets_119 rfl hl 1 rfl ?_
          refine x_iconst (v := (1 : Int32)) C dL_sets_120 (by decide) ?_
          refine x_iconst (v := (1 : Int32)) C dL_sets_121 (by decide) ?_
          refine x_iload_n C dL_sets_122 rfl hl 0 rfl ?_
          refine x_iconst (v := (3 : Int32)) C dL_sets_123 (by decide) ?_
          refine x_ishr C dL_sets_124 ?_
          refine x_bipush (v := (6 : Int32)) C dL_sets_125 (by decide) ?_
          refine x_iremK C (by decide) dL_sets_127 ?_
          refine x_iadd C dL_sets_128 ?_
          obtain ⟨u23, hu23, h⟩ := ob_some h
          refine x_callV (As := [.int _, .int _]) (n := 2) C (kX5_setServer l D cI cS aR _ _ _ hu23) (fun hh => nomatch hh) wm_L_28 wi_X5_setServer we_X5_setServer wz_X5 wc_X5_setServer (by decide +kernel) rfl hP hD hS hA 0 2 rfl rfl rfl hl.1 dL_sets_129 rfl (Nat.le_of_ble_eq_true rfl) ⟨Nat.le_of_ble_eq_true rfl, Nat.le_of_ble_eq_true rfl⟩ ⟨Nat.zero_le _, Nat.zero_le _⟩ (fun H locs hP hD hS => ?_)
          refine x_bipush (v := (8 : Int32)) C dL_sets_132 (by decide) ?_
          refine x_icmp_ne (tgt := 188) C h dL_sets_134 (by decide) (fun h => ?_) (fun h => ?_)
          · exact B188 _ _ h _ _ _ hP hD hS (lv_sub hl [1, 0] rfl)
          · refine x_aload_n C dL_sets_137 rfl hl 1 rfl ?_
            refine x_iconst (v := (2 : Int32)) C dL_sets_138 (by decide) ?_
            refine x_iconst (v := (1 : Int32)) C dL_sets_139 (by decide) ?_
            refine x_iload_n C dL_sets_140 rfl hl 0 rfl ?_
            refine x_bipush (v := (7 : Int32)) C dL_sets_141 (by decide) ?_
            refine x_ishr C dL_sets_143 ?_
            refine x_iconst (v := (3 : Int32)) C dL_sets_144 (by decide) ?_
            refine x_iremK C (by decide) dL_sets_145 ?_
            refine x_iadd C dL_sets_146 ?_
            obtain ⟨u24, hu24, h⟩ := ob_some h
            refine x_callV (As := [.int _, .int _]) (n := 2) C (kX5_setServer l D cI cS aR _ _ _ hu24) (fun hh => nomatch hh) wm_L_28 wi_X5_setServer we_X5_setServer wz_X5 wc_X5_setServer (by decide +kernel) rfl hP hD hS hA 0 2 rfl rfl rfl hl.1 dL_sets_147 rfl (Nat.le_of_ble_eq_true rfl) ⟨Nat.le_of_ble_eq_true rfl, Nat.le_of_ble_eq_true rfl⟩ ⟨Nat.zero_le _, Nat.zero_le _⟩ (fun H locs hP hD hS => ?_)
            refine x_iconst (v := (1 : Int32)) C dL_sets_150 (by decide) ?_
            refine x_icmp_ne (tgt := 188) C h dL_sets_151 (by decide) (fun h => ?_) (fun h => ?_)
            · exact B188 _ _ h _ _ _ hP hD hS (lv_sub hl [1, 0] rfl)
            · refine x_aload_n C dL_sets_154 rfl hl 1 rfl ?_
              refine x_iconst (v := (3 : Int32)) C dL_sets_155 (by decide) ?_
              refine x_iconst (v := (1 : Int32)) C dL_sets_156 (by decide) ?_
              refine x_iload_n C dL_sets_157 rfl hl 0 rfl ?_
              refine x_bipush (v := (10 : Int32)) C dL_sets_158 (by decide) ?_
              refine x_ishr C dL_sets_160 ?_
              refine x_iconst (v := (4 : Int32)) C dL_sets_161 (by decide) ?_
              refine x_iremK C (by decide) dL_sets_162 ?_
              refine x_iadd C dL_sets_163 ?_
              obtain ⟨u25, hu25, h⟩ := ob_some h
              refine x_callV (As := [.int _, .int _]) (n := 2) C (kX5_setServer l D cI cS aR _ _ _ hu25) (fun hh => nomatch hh) wm_L_28 wi_X5_setServer we_X5_setServer wz_X5 wc_X5_setServer (by decide +kernel) rfl hP hD hS hA 0 2 rfl rfl rfl hl.1 dL_sets_164 rfl (Nat.le_of_ble_eq_true rfl) ⟨Nat.le_of_ble_eq_true rfl, Nat.le_of_ble_eq_true rfl⟩ ⟨Nat.zero_le _, Nat.zero_le _⟩ (fun H locs hP hD hS => ?_)
              refine x_iconst (v := (4 : Int32)) C dL_sets_167 (by decide) ?_
              refine x_icmp_ne (tgt := 188) C h dL_sets_168 (by decide) (fun h => ?_) (fun h => ?_)
              · exact B188 _ _ h _ _ _ hP hD hS (lv_sub hl [1, 0] rfl)
              · refine x_aload_n C dL_sets_171 rfl hl 1 rfl ?_
                refine x_iload_n C dL_sets_172 rfl hl 0 rfl ?_
                refine x_bipush (v := (13 : Int32)) C dL_sets_173 (by decide) ?_
                refine x_ishr C dL_sets_175 ?_
                refine x_iconst (v := (4 : Int32)) C dL_sets_176 (by decide) ?_
                refine x_iremK C (by decide) dL_sets_177 ?_
                obtain ⟨u26, hu26, h⟩ := ob_some h
                refine x_callV (As := [.int _]) (n := 1) C (kX5_setDiscipline l D cI cS aR _ _ hu26) (fun hh => nomatch hh) wm_L_31 wi_X5_setDiscipline we_X5_setDiscipline wz_X5 wc_X5_setDiscipline (by decide +kernel) rfl hP hD hS hA 0 2 rfl rfl rfl hl.1 dL_sets_178 rfl (Nat.le_of_ble_eq_true rfl) ⟨Nat.le_of_ble_eq_true rfl, Nat.le_of_ble_eq_true rfl⟩ ⟨Nat.zero_le _, Nat.zero_le _⟩ (fun H locs hP hD hS => ?_)
                refine x_if_ne (tgt := 188) C h dL_sets_181 (by decide) (fun h => ?_) (fun h => ?_)
                · exact B188 _ _ h _ _ _ hP hD hS (lv_sub hl [1, 0] rfl)
                · refine x_iconst (v := (1 : Int32)) C dL_sets_184 (by decide) ?_
                  refine x_goto (tgt := 189) C dL_sets_185 (by decide) ?_
                  exact B189 _ _ _ h _ _ _ hP hD hS (lv_sub hl [1, 0] rfl)
    · refine x_iconst (v := (0 : Int32)) C dL_sets_9 (by decide) ?_
      refine x_istore (lv' := [(4, .int (0 : Int32)), (0, .ref (aR 0)), (1, .ref b), (2, .int x2), (3, .int x3)]) C dL_sets_10 hl (by decide) rfl (fun ls hl => ?_)
      exact B12 K4 ih4 FU _ h _ _ _ hP hD hS (lv_sub hl [1, 2, 3, 4, 0] rfl)
  refine x_iconst (v := (1 : Int32)) C dL_sets_0 (by decide) ?_
  refine x_istore_n (lv' := [(2, .int (1 : Int32)), (0, .ref (aR 0)), (1, .ref b)]) C dL_sets_1 rfl hl (by decide) rfl (fun ls hl => ?_)
  refine x_iconst (v := (0 : Int32)) C dL_sets_2 (by decide) ?_
  refine x_istore_n (lv' := [(3, .int (0 : Int32)), (2, .int (1 : Int32)), (0, .ref (aR 0)), (1, .ref b)]) C dL_sets_3 rfl hl (by decide) rfl (fun ls hl => ?_)
  exact B4 FU _ h _ _ _ hP hD hS (lv_sub hl [2, 3, 1, 0] rfl)
