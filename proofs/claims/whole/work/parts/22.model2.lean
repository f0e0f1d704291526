theorem dX6_creates_0 : decode cX6_creates 0 = .ok (.aload_n 0, 1) := by decide +kernel
theorem dX6_creates_1 : decode cX6_creates 1 = .ok (.iload_n 1, 1) := by decide +kernel
theorem dX6_creates_2 : decode cX6_creates 2 = .ok (.iconst 0, 1) := by decide +kernel
theorem dX6_creates_3 : decode cX6_creates 3 = .ok (.iconst 1, 1) := by decide +kernel
theorem dX6_creates_4 : decode cX6_creates 4 = .ok (.invokevirtual 60, 3) := by decide +kernel
theorem dX6_creates_7 : decode cX6_creates 7 = .ok (.bipush 90, 2) := by decide +kernel
theorem dX6_creates_9 : decode cX6_creates 9 = .ok (.bipush 8, 2) := by decide +kernel
theorem dX6_creates_11 : decode cX6_creates 11 = .ok (.iload_n 1, 1) := by decide +kernel
theorem dX6_creates_12 : decode cX6_creates 12 = .ok (.imul, 1) := by decide +kernel
theorem dX6_creates_13 : decode cX6_creates 13 = .ok (.iadd, 1) := by decide +kernel
theorem dX6_creates_14 : decode cX6_creates 14 = .ok (.bipush 7, 2) := by decide +kernel
theorem dX6_creates_16 : decode cX6_creates 16 = .ok (.iadd, 1) := by decide +kernel
theorem dX6_creates_17 : decode cX6_creates 17 = .ok (.istore_n 2, 1) := by decide +kernel
theorem dX6_creates_18 : decode cX6_creates 18 = .ok (.bipush 10, 2) := by decide +kernel
theorem dX6_creates_20 : decode cX6_creates 20 = .ok (.aload_n 0, 1) := by decide +kernel
theorem dX6_creates_21 : decode cX6_creates 21 = .ok (.iload_n 1, 1) := by decide +kernel
theorem dX6_creates_22 : decode cX6_creates 22 = .ok (.bipush 10, 2) := by decide +kernel
theorem dX6_creates_24 : decode cX6_creates 24 = .ok (.invokevirtual 44, 3) := by decide +kernel
theorem dX6_creates_27 : decode cX6_creates 27 = .ok (.imul, 1) := by decide +kernel
theorem dX6_creates_28 : decode cX6_creates 28 = .ok (.istore_n 3, 1) := by decide +kernel
theorem dX6_creates_29 : decode cX6_creates 29 = .ok (.aload_n 0, 1) := by decide +kernel
theorem dX6_creates_30 : decode cX6_creates 30 = .ok (.getfield 7, 3) := by decide +kernel
theorem dX6_creates_33 : decode cX6_creates 33 = .ok (.iload_n 2, 1) := by decide +kernel
theorem dX6_creates_34 : decode cX6_creates 34 = .ok (.iload_n 3, 1) := by decide +kernel
theorem dX6_creates_35 : decode cX6_creates 35 = .ok (.aload_n 0, 1) := by decide +kernel
theorem dX6_creates_36 : decode cX6_creates 36 = .ok (.getfield 7, 3) := by decide +kernel
theorem dX6_creates_39 : decode cX6_creates 39 = .ok (.iload_n 2, 1) := by decide +kernel
theorem dX6_creates_40 : decode cX6_creates 40 = .ok (.iaload, 1) := by decide +kernel
theorem dX6_creates_41 : decode cX6_creates 41 = .ok (.aload_n 0, 1) := by decide +kernel
theorem dX6_creates_42 : decode cX6_creates 42 = .ok (.iload_n 1, 1) := by decide +kernel
theorem dX6_creates_43 : decode cX6_creates 43 = .ok (.bipush 11, 2) := by decide +kernel
theorem dX6_creates_45 : decode cX6_creates 45 = .ok (.invokevirtual 44, 3) := by decide +kernel
theorem dX6_creates_48 : decode cX6_creates 48 = .ok (.iadd, 1) := by decide +kernel
theorem dX6_creates_49 : decode cX6_creates 49 = .ok (.invokestatic 53, 3) := by decide +kernel
theorem dX6_creates_52 : decode cX6_creates 52 = .ok (.iastore, 1) := by decide +kernel
theorem dX6_creates_53 : decode cX6_creates 53 = .ok (.aload_n 0, 1) := by decide +kernel
theorem dX6_creates_54 : decode cX6_creates 54 = .ok (.getfield 7, 3) := by decide +kernel
theorem dX6_creates_57 : decode cX6_creates 57 = .ok (.sipush 188, 3) := by decide +kernel
theorem dX6_creates_60 : decode cX6_creates 60 = .ok (.iaload, 1) := by decide +kernel
theorem dX6_creates_61 : decode cX6_creates 61 = .ok (.bipush 16, 2) := by decide +kernel
theorem dX6_creates_63 : decode cX6_creates 63 = .ok (.if_icmp .ne 11, 3) := by decide +kernel
theorem dX6_creates_66 : decode cX6_creates 66 = .ok (.aload_n 0, 1) := by decide +kernel
theorem dX6_creates_67 : decode cX6_creates 67 = .ok (.iload_n 1, 1) := by decide +kernel
theorem dX6_creates_68 : decode cX6_creates 68 = .ok (.iconst 3, 1) := by decide +kernel
theorem dX6_creates_69 : decode cX6_creates 69 = .ok (.iconst 1, 1) := by decide +kernel
theorem dX6_creates_70 : decode cX6_creates 70 = .ok (.invokevirtual 60, 3) := by decide +kernel
theorem dX6_creates_73 : decode cX6_creates 73 = .ok (.return_, 1) := by decide +kernel
theorem dX6_creates_74 : decode cX6_creates 74 = .ok (.aload_n 0, 1) := by decide +kernel
theorem dX6_creates_75 : decode cX6_creates 75 = .ok (.getfield 7, 3) := by decide +kernel
theorem dX6_creates_78 : decode cX6_creates 78 = .ok (.sipush 188, 3) := by decide +kernel
theorem dX6_creates_81 : decode cX6_creates 81 = .ok (.iaload, 1) := by decide +kernel
theorem dX6_creates_82 : decode cX6_creates 82 = .ok (.istore 4, 2) := by decide +kernel
theorem dX6_creates_84 : decode cX6_creates 84 = .ok (.aload_n 0, 1) := by decide +kernel
theorem dX6_creates_85 : decode cX6_creates 85 = .ok (.getfield 7, 3) := by decide +kernel
theorem dX6_creates_88 : decode cX6_creates 88 = .ok (.sipush 188, 3) := by decide +kernel
theorem dX6_creates_91 : decode cX6_creates 91 = .ok (.dup2, 1) := by decide +kernel
theorem dX6_creates_92 : decode cX6_creates 92 = .ok (.iaload, 1) := by decide +kernel
theorem dX6_creates_93 : decode cX6_creates 93 = .ok (.iconst 1, 1) := by decide +kernel
theorem dX6_creates_94 : decode cX6_creates 94 = .ok (.iadd, 1) := by decide +kernel
theorem dX6_creates_95 : decode cX6_creates 95 = .ok (.iastore, 1) := by decide +kernel
theorem dX6_creates_96 : decode cX6_creates 96 = .ok (.aload_n 0, 1) := by decide +kernel
theorem dX6_creates_97 : decode cX6_creates 97 = .ok (.getfield 7, 3) := by decide +kernel
theorem dX6_creates_100 : decode cX6_creates 100 = .ok (.aload_n 0, 1) := by decide +kernel
theorem dX6_creates_101 : decode cX6_creates 101 = .ok (.iload 4, 2) := by decide +kernel
theorem dX6_creates_103 : decode cX6_creates 103 = .ok (.invokevirtual 48, 3) := by decide +kernel
theorem dX6_creates_106 : decode cX6_creates 106 = .ok (.iconst 0, 1) := by decide +kernel
theorem dX6_creates_107 : decode cX6_creates 107 = .ok (.iadd, 1) := by decide +kernel
theorem dX6_creates_108 : decode cX6_creates 108 = .ok (.aload_n 0, 1) := by decide +kernel
theorem dX6_creates_109 : decode cX6_creates 109 = .ok (.getfield 7, 3) := by decide +kernel
theorem dX6_creates_112 : decode cX6_creates 112 = .ok (.sipush 183, 3) := by decide +kernel
theorem dX6_creates_115 : decode cX6_creates 115 = .ok (.iaload, 1) := by decide +kernel
theorem dX6_creates_116 : decode cX6_creates 116 = .ok (.iastore, 1) := by decide +kernel
theorem dX6_creates_117 : decode cX6_creates 117 = .ok (.aload_n 0, 1) := by decide +kernel
theorem dX6_creates_118 : decode cX6_creates 118 = .ok (.getfield 7, 3) := by decide +kernel
theorem dX6_creates_121 : decode cX6_creates 121 = .ok (.sipush 183, 3) := by decide +kernel
theorem dX6_creates_124 : decode cX6_creates 124 = .ok (.dup2, 1) := by decide +kernel
theorem dX6_creates_125 : decode cX6_creates 125 = .ok (.iaload, 1) := by decide +kernel
theorem dX6_creates_126 : decode cX6_creates 126 = .ok (.iconst 1, 1) := by decide +kernel
theorem dX6_creates_127 : decode cX6_creates 127 = .ok (.iadd, 1) := by decide +kernel
theorem dX6_creates_128 : decode cX6_creates 128 = .ok (.iastore, 1) := by decide +kernel
theorem dX6_creates_129 : decode cX6_creates 129 = .ok (.aload_n 0, 1) := by decide +kernel
theorem dX6_creates_130 : decode cX6_creates 130 = .ok (.getfield 7, 3) := by decide +kernel
theorem dX6_creates_133 : decode cX6_creates 133 = .ok (.aload_n 0, 1) := by decide +kernel
theorem dX6_creates_134 : decode cX6_creates 134 = .ok (.iload 4, 2) := by decide +kernel
theorem dX6_creates_136 : decode cX6_creates 136 = .ok (.invokevirtual 48, 3) := by decide +kernel
theorem dX6_creates_139 : decode cX6_creates 139 = .ok (.iconst 1, 1) := by decide +kernel
theorem dX6_creates_140 : decode cX6_creates 140 = .ok (.iadd, 1) := by decide +kernel
theorem dX6_creates_141 : decode cX6_creates 141 = .ok (.iload_n 1, 1) := by decide +kernel
theorem dX6_creates_142 : decode cX6_creates 142 = .ok (.iastore, 1) := by decide +kernel
theorem dX6_creates_143 : decode cX6_creates 143 = .ok (.aload_n 0, 1) := by decide +kernel
theorem dX6_creates_144 : decode cX6_creates 144 = .ok (.getfield 7, 3) := by decide +kernel
theorem dX6_creates_147 : decode cX6_creates 147 = .ok (.aload_n 0, 1) := by decide +kernel
theorem dX6_creates_148 : decode cX6_creates 148 = .ok (.iload 4, 2) := by decide +kernel
theorem dX6_creates_150 : decode cX6_creates 150 = .ok (.invokevirtual 48, 3) := by decide +kernel
theorem dX6_creates_153 : decode cX6_creates 153 = .ok (.iconst 2, 1) := by decide +kernel
theorem dX6_creates_154 : decode cX6_creates 154 = .ok (.iadd, 1) := by decide +kernel
theorem dX6_creates_155 : decode cX6_creates 155 = .ok (.aload_n 0, 1) := by decide +kernel
theorem dX6_creates_156 : decode cX6_creates 156 = .ok (.getfield 67, 3) := by decide +kernel
theorem dX6_creates_159 : decode cX6_creates 159 = .ok (.aload_n 0, 1) := by decide +kernel
theorem dX6_creates_160 : decode cX6_creates 160 = .ok (.iload_n 1, 1) := by decide +kernel
theorem dX6_creates_161 : decode cX6_creates 161 = .ok (.iconst 2, 1) := by decide +kernel
theorem dX6_creates_162 : decode cX6_creates 162 = .ok (.invokevirtual 44, 3) := by decide +kernel
theorem dX6_creates_165 : decode cX6_creates 165 = .ok (.iadd, 1) := by decide +kernel
theorem dX6_creates_166 : decode cX6_creates 166 = .ok (.iastore, 1) := by decide +kernel
theorem dX6_creates_167 : decode cX6_creates 167 = .ok (.aload_n 0, 1) := by decide +kernel
theorem dX6_creates_168 : decode cX6_creates 168 = .ok (.getfield 7, 3) := by decide +kernel
theorem dX6_creates_171 : decode cX6_creates 171 = .ok (.aload_n 0, 1) := by decide +kernel
theorem dX6_creates_172 : decode cX6_creates 172 = .ok (.iload 4, 2) := by decide +kernel
theorem dX6_creates_174 : decode cX6_creates 174 = .ok (.invokevirtual 48, 3) := by decide +kernel
theorem dX6_creates_177 : decode cX6_creates 177 = .ok (.iconst 3, 1) := by decide +kernel
theorem dX6_creates_178 : decode cX6_creates 178 = .ok (.iadd, 1) := by decide +kernel
theorem dX6_creates_179 : decode cX6_creates 179 = .ok (.iconst 0, 1) := by decide +kernel
theorem dX6_creates_180 : decode cX6_creates 180 = .ok (.iastore, 1) := by decide +kernel
theorem dX6_creates_181 : decode cX6_creates 181 = .ok (.aload_n 0, 1) := by decide +kernel
theorem dX6_creates_182 : decode cX6_creates 182 = .ok (.getfield 7, 3) := by decide +kernel
theorem dX6_creates_185 : decode cX6_creates 185 = .ok (.aload_n 0, 1) := by decide +kernel
theorem dX6_creates_186 : decode cX6_creates 186 = .ok (.iload 4, 2) := by decide +kernel
theorem dX6_creates_188 : decode cX6_creates 188 = .ok (.invokevirtual 48, 3) := by decide +kernel
theorem dX6_creates_191 : decode cX6_creates 191 = .ok (.bipush 6, 2) := by decide +kernel
theorem dX6_creates_193 : decode cX6_creates 193 = .ok (.iadd, 1) := by decide +kernel
theorem dX6_creates_194 : decode cX6_creates 194 = .ok (.iconst 0, 1) := by decide +kernel
theorem dX6_creates_195 : decode cX6_creates 195 = .ok (.iastore, 1) := by decide +kernel
theorem dX6_creates_196 : decode cX6_creates 196 = .ok (.aload_n 0, 1) := by decide +kernel
theorem dX6_creates_197 : decode cX6_creates 197 = .ok (.iload 4, 2) := by decide +kernel
theorem dX6_creates_199 : decode cX6_creates 199 = .ok (.invokevirtual 109, 3) := by decide +kernel
theorem dX6_creates_202 : decode cX6_creates 202 = .ok (.return_, 1) := by decide +kernel
def fX6_creates (p1 : Int32) (S : MS) : Option (MS) :=
  ob (fX6_counts p1 (0 : Int32) (1 : Int32) S) fun u24 => nm ((((90 : Int32) + ((8 : Int32) * p1)) + (7 : Int32))) fun v25 => ob (fX6_of p1 (10 : Int32) u24) fun u26 => nm (((10 : Int32) * u26)) fun v27 => (if okI v25 5130 then ob (fX6_of p1 (11 : Int32) u24) fun u28 => ob (fX6_least v27 (((u24.1 (v25).toNatClampNeg) + u28))) fun u29 => (if okI v25 5130 then nm (upd u24.1 (v25).toNatClampNeg u29, u24.2) fun S30 => (if (S30.1 ((188 : Int32)).toNatClampNeg) = (16 : Int32) then ob (fX6_counts p1 (3 : Int32) (1 : Int32) S30) fun u46 => some u46 else nm ((S30.1 ((188 : Int32)).toNatClampNeg)) fun v31 => nm (upd S30.1 ((188 : Int32)).toNatClampNeg ((S30.1 ((188 : Int32)).toNatClampNeg) + (1 : Int32)), S30.2) fun S32 => ob (fX6_row v31 S32) fun u33 => (if okI (u33 + (0 : Int32)) 5130 then nm (upd S32.1 ((u33 + (0 : Int32))).toNatClampNeg (S32.1 ((183 : Int32)).toNatClampNeg), S32.2) fun S34 => nm (upd S34.1 ((183 : Int32)).toNatClampNeg ((S34.1 ((183 : Int32)).toNatClampNeg) + (1 : Int32)), S34.2) fun S35 => ob (fX6_row v31 S35) fun u36 => (if okI (u36 + (1 : Int32)) 5130 then nm (upd S35.1 ((u36 + (1 : Int32))).toNatClampNeg p1, S35.2) fun S37 => ob (fX6_row v31 S37) fun u38 => ob (fX6_of p1 (2 : Int32) S37) fun u39 => (if okI (u38 + (2 : Int32)) 5130 then nm (upd S37.1 ((u38 + (2 : Int32))).toNatClampNeg ((S37.2.2 5) + u39), S37.2) fun S40 => ob (fX6_row v31 S40) fun u41 => (if okI (u41 + (3 : Int32)) 5130 then nm (upd S40.1 ((u41 + (3 : Int32))).toNatClampNeg (0 : Int32), S40.2) fun S42 => ob (fX6_row v31 S42) fun u43 => (if okI (u43 + (6 : Int32)) 5130 then nm (upd S42.1 ((u43 + (6 : Int32))).toNatClampNeg (0 : Int32), S42.2) fun S44 => ob (fX6_sends v31 S44) fun u45 => some u45 else none) else none) else none) else none) else none)) else none) else none)
set_option maxHeartbeats 4000000 in
set_option maxRecDepth 100000 in
theorem kX6_creates (l : Launch) (D : va_G) (cI cS : ClassId) (aM : Nat → Nat) (p1 : Int32) (S : MS) {q : MS} (h : fX6_creates p1 S = some q) : Mc l D (tyL cI cS) false yX6_creates cX6_creates 5 none 6 [.ref (aM 0), .int p1] (wM cI aM S) none (wM cI aM q) := by
  refine Mc_of RX6 (by decide +kernel) rfl wc_X6_creates (Nat.le_of_ble_eq_true rfl) ?_
  intro p e s m args below meth c A Q ls C hA hz hP hD hS hl RET
  have RETh : ∀ {pc : Nat} {ls : Array Slot} {H : Heap} {locs : List Loc} {S1 : MS}, decode cX6_creates pc = .ok (.return_, 1) → some S1 = some q → va_P D vwCl (wM cI aM S1) H → va_D A (wM cI aM S1) → va_S A s.heap H locs → W p l e (rmL 6) s m args below meth c H locs 0 0 Q (F0 m pc ls []) := by
    intro pc ls H locs S1 hd h hP hD hS; cases h; exact RET (x_vret C hd) hP hD hS
  refine x_aload_n C dX6_creates_0 rfl hl 0 rfl ?_
  refine x_iload_n C dX6_creates_1 rfl hl 1 rfl ?_
  refine x_iconst (v := (0 : Int32)) C dX6_creates_2 (by decide) ?_
  refine x_iconst (v := (1 : Int32)) C dX6_creates_3 (by decide) ?_
  obtain ⟨u24, hu24, h⟩ := ob_some h
  refine x_callV (As := [.int _, .int _, .int _]) (n := 3) C (kX6_counts l D cI cS aM _ _ _ _ hu24) (fun hh => nomatch hh) wm_X6_60 wi_X6_counts we_X6_counts wz_X6 wc_X6_counts (by decide +kernel) rfl hP hD hS hA 0 3 rfl rfl rfl hl.1 dX6_creates_4 rfl (Nat.le_of_ble_eq_true rfl) ⟨Nat.le_of_ble_eq_true rfl, Nat.le_of_ble_eq_true rfl⟩ ⟨Nat.zero_le _, Nat.zero_le _⟩ (fun H locs hP hD hS => ?_)
  refine x_bipush (v := (90 : Int32)) C dX6_creates_7 (by decide) ?_
  refine x_bipush (v := (8 : Int32)) C dX6_creates_9 (by decide) ?_
  refine x_iload_n C dX6_creates_11 rfl hl 1 rfl ?_
  refine x_imul C dX6_creates_12 ?_
  refine x_iadd C dX6_creates_13 ?_
  refine x_bipush (v := (7 : Int32)) C dX6_creates_14 (by decide) ?_
  refine x_iadd C dX6_creates_16 ?_
  refine x_nmi h (fun v25 h => ?_)
  refine x_istore_n (lv' := [(2, .int v25), (0, .ref (aM 0)), (1, .int p1)]) C dX6_creates_17 rfl hl (by decide) rfl (fun ls hl => ?_)
  refine x_bipush (v := (10 : Int32)) C dX6_creates_18 (by decide) ?_
  refine x_aload_n C dX6_creates_20 rfl hl 1 rfl ?_
  refine x_iload_n C dX6_creates_21 rfl hl 2 rfl ?_
  refine x_bipush (v := (10 : Int32)) C dX6_creates_22 (by decide) ?_
  obtain ⟨u26, hu26, h⟩ := ob_some h
  refine x_callV (As := [.int _, .int _]) (n := 2) C (kX6_of l D cI cS aM _ _ _ hu26) (fun hh => nomatch hh) wm_X6_44 wi_X6_of we_X6_of wz_X6 wc_X6_of (by decide +kernel) rfl hP hD hS hA 0 3 rfl rfl rfl hl.1 dX6_creates_24 rfl (Nat.le_of_ble_eq_true rfl) ⟨Nat.le_of_ble_eq_true rfl, Nat.le_of_ble_eq_true rfl⟩ ⟨Nat.zero_le _, Nat.zero_le _⟩ (fun H locs hP hD hS => ?_)
  refine x_imul C dX6_creates_27 ?_
  refine x_nmi h (fun v27 h => ?_)
  refine x_istore_n (lv' := [(3, .int v27), (2, .int v25), (0, .ref (aM 0)), (1, .int p1)]) C dX6_creates_28 rfl hl (by decide) rfl (fun ls hl => ?_)
  refine x_aload_n C dX6_creates_29 rfl hl 2 rfl ?_
  refine x_get C inX6 hP 0 rfl rfl 0 (by decide) wf_X6_7 rfl dX6_creates_30 ?_
  refine x_iload_n C dX6_creates_33 rfl hl 1 rfl ?_
  refine x_iload_n C dX6_creates_34 rfl hl 0 rfl ?_
  refine x_aload_n C dX6_creates_35 rfl hl 2 rfl ?_
  refine x_get C inX6 hP 0 rfl rfl 0 (by decide) wf_X6_7 rfl dX6_creates_36 ?_
  refine x_iload_n C dX6_creates_39 rfl hl 1 rfl ?_
  refine x_iald C h hP 1 rfl (t0 := 0) rfl dX6_creates_40 (fun h => ?_)
  refine x_aload_n C dX6_creates_41 rfl hl 2 rfl ?_
  refine x_iload_n C dX6_creates_42 rfl hl 3 rfl ?_
  refine x_bipush (v := (11 : Int32)) C dX6_creates_43 (by decide) ?_
  obtain ⟨u28, hu28, h⟩ := ob_some h
  refine x_callV (As := [.int _, .int _]) (n := 2) C (kX6_of l D cI cS aM _ _ _ hu28) (fun hh => nomatch hh) wm_X6_44 wi_X6_of we_X6_of wz_X6 wc_X6_of (by decide +kernel) rfl hP hD hS hA 0 3 rfl rfl rfl hl.1 dX6_creates_45 rfl (Nat.le_of_ble_eq_true rfl) ⟨Nat.le_of_ble_eq_true rfl, Nat.le_of_ble_eq_true rfl⟩ ⟨Nat.zero_le _, Nat.zero_le _⟩ (fun H locs hP hD hS => ?_)
  refine x_iadd C dX6_creates_48 ?_
  obtain ⟨u29, hu29, h⟩ := ob_some h
  refine x_callS (As := [.int _, .int _]) (n := 2) C (kX6_least l D cI cS _ _ _ hu29) (fun hh => nomatch hh) wm_X6_53 wt_X6_least wz_X6 wc_X6_least (by decide +kernel) rfl hP hD hS hA hl.1 dX6_creates_49 rfl (Nat.le_of_ble_eq_true rfl) ⟨Nat.le_of_ble_eq_true rfl, Nat.le_of_ble_eq_true rfl⟩ ⟨Nat.zero_le _, Nat.zero_le _⟩ (fun H locs hP hD hS => ?_)
  refine x_iastM (wM cI aM) C h hP hD hS 1 rfl (t0 := 0) rfl rfl dX6_creates_52 (fun S30 h H locs hP hD hS => ?_)
  refine x_aload_n C dX6_creates_53 rfl hl 2 rfl ?_
  refine x_get C inX6 hP 0 rfl rfl 0 (by decide) wf_X6_7 rfl dX6_creates_54 ?_
  refine x_sipush (v := (188 : Int32)) C dX6_creates_57 (by decide) ?_
  refine x_ialdK C (by decide) hP 1 rfl (t0 := 0) rfl dX6_creates_60 ?_
  refine x_bipush (v := (16 : Int32)) C dX6_creates_61 (by decide) ?_
  refine x_icmp_ne (tgt := 74) C h dX6_creates_63 (by decide) (fun h => ?_) (fun h => ?_)
  · refine x_aload_n C dX6_creates_74 rfl hl 2 rfl ?_
    refine x_get C inX6 hP 0 rfl rfl 0 (by decide) wf_X6_7 rfl dX6_creates_75 ?_
    refine x_sipush (v := (188 : Int32)) C dX6_creates_78 (by decide) ?_
    refine x_ialdK C (by decide) hP 1 rfl (t0 := 0) rfl dX6_creates_81 ?_
    refine x_nmi h (fun v31 h => ?_)
    refine x_istore (lv' := [(4, .int v31), (3, .int v27), (2, .int v25), (0, .ref (aM 0)), (1, .int p1)]) C dX6_creates_82 hl (by decide) rfl (fun ls hl => ?_)
    refine x_aload_n C dX6_creates_84 rfl hl 3 rfl ?_
    refine x_get C inX6 hP 0 rfl rfl 0 (by decide) wf_X6_7 rfl dX6_creates_85 ?_
    refine x_sipush (v := (188 : Int32)) C dX6_creates_88 (by decide) ?_
    refine x_dup2 C dX6_creates_91 rfl rfl ?_
    refine x_ialdK C (by decide) hP 1 rfl (t0 := 0) rfl dX6_creates_92 ?_
    refine x_iconst (v := (1 : Int32)) C dX6_creates_93 (by decide) ?_
    refine x_iadd C dX6_creates_94 ?_
    refine x_iastMK (wM cI aM) C h (by decide) hP hD hS 1 rfl (t0 := 0) rfl rfl dX6_creates_95 (fun S32 h H locs hP hD hS => ?_)
    refine x_aload_n C dX6_creates_96 rfl hl 3 rfl ?_
    refine x_get C inX6 hP 0 rfl rfl 0 (by decide) wf_X6_7 rfl dX6_creates_97 ?_
    refine x_aload_n C dX6_creates_100 rfl hl 3 rfl ?_
    refine x_iload C dX6_creates_101 hl 0 rfl ?_
    obtain ⟨u33, hu33, h⟩ := ob_some h
    refine x_callV (As := [.int _]) (n := 1) C (kX6_row l D cI cS aM _ _ hu33) (fun hh => nomatch hh) wm_X6_48 wi_X6_row we_X6_row wz_X6 wc_X6_row (by decide +kernel) rfl hP hD hS hA 0 3 rfl rfl rfl hl.1 dX6_creates_103 rfl (Nat.le_of_ble_eq_true rfl) ⟨Nat.le_of_ble_eq_true rfl, Nat.le_of_ble_eq_true rfl⟩ ⟨Nat.zero_le _, Nat.zero_le _⟩ (fun H locs hP hD hS => ?_)
    refine x_iconst (v := (0 : Int32)) C dX6_creates_106 (by decide) ?_
    refine x_iadd C dX6_creates_107 ?_
    refine x_aload_n C dX6_creates_108 rfl hl 3 rfl ?_
    refine x_get C inX6 hP 0 rfl rfl 0 (by decide) wf_X6_7 rfl dX6_creates_109 ?_
    refine x_sipush (v := (183 : Int32)) C dX6_creates_112 (by decide) ?_
    refine x_ialdK C (by decide) hP 1 rfl (t0 := 0) rfl dX6_creates_115 ?_
    refine x_iastM (wM cI aM) C h hP hD hS 1 rfl (t0 := 0) rfl rfl dX6_creates_116 (fun S34 h H locs hP hD hS => ?_)
    refine x_aload_n C dX6_creates_117 rfl hl 3 rfl ?_
    refine x_get C inX6 hP 0 rfl rfl 0 (by decide) wf_X6_7 rfl dX6_creates_118 ?_
    refine x_sipush (v := (183 : Int32)) C dX6_creates_121 (by decide) ?_
    refine x_dup2 C dX6_creates_124 rfl rfl ?_
    refine x_ialdK C (by decide) hP 1 rfl (t0 := 0) rfl dX6_creates_125 ?_
    refine x_iconst (v := (1 : Int32)) C dX6_creates_126 (by decide) ?_
    refine x_iadd C dX6_creates_127 ?_
    refine x_iastMK (wM cI aM) C h (by decide) hP hD hS 1 rfl (t0 := 0) rfl rfl dX6_creates_128 (fun S35 h H locs hP hD hS => ?_)
    refine x_aload_n C dX6_creates_129 rfl hl 3 rfl ?_
    refine x_get C inX6 hP 0 rfl rfl 0 (by decide) wf_X6_7 rfl dX6_creates_130 ?_
    refine x_aload_n C dX6_creates_133 rfl hl 3 rfl ?_
    refine x_iload C dX6_creates_134 hl 0 rfl ?_
    obtain ⟨u36, hu36, h⟩ := ob_some h
    refine x_callV (As := [.int _]) (n := 1) C (kX6_row l D cI cS aM _ _ hu36) (fun hh => nomatch hh) wm_X6_48 wi_X6_row we_X6_row wz_X6 wc_X6_row (by decide +kernel) rfl hP hD hS hA 0 3 rfl rfl rfl hl.1 dX6_creates_136 rfl (Nat.le_of_ble_eq_true rfl) ⟨Nat.le_of_ble_eq_true rfl, Nat.le_of_ble_eq_true rfl⟩ ⟨Nat.zero_le _, Nat.zero_le _⟩ (fun H locs hP hD hS => ?_)
    refine x_iconst (v := (1 : Int32)) C dX6_creates_139 (by decide) ?_
    refine x_iadd C dX6_creates_140 ?_
    refine x_iload_n C dX6_creates_141 rfl hl 4 rfl ?_
    refine x_iastM (wM cI aM) C h hP hD hS 1 rfl (t0 := 0) rfl rfl dX6_creates_142 (fun S37 h H locs hP hD hS => ?_)
    refine x_aload_n C dX6_creates_143 rfl hl 3 rfl ?_
    refine x_get C inX6 hP 0 rfl rfl 0 (by decide) wf_X6_7 rfl dX6_creates_144 ?_
    refine x_aload_n C dX6_creates_147 rfl hl 3 rfl ?_
    refine x_iload C dX6_creates_148 hl 0 rfl ?_
    obtain ⟨u38, hu38, h⟩ := ob_some h
    refine x_callV (As := [.int _]) (n := 1) C (kX6_row l D cI cS aM _ _ hu38) (fun hh => nomatch hh) wm_X6_48 wi_X6_row we_X6_row wz_X6 wc_X6_row (by decide +kernel) rfl hP hD hS hA 0 3 rfl rfl rfl hl.1 dX6_creates_150 rfl (Nat.le_of_ble_eq_true rfl) ⟨Nat.le_of_ble_eq_true rfl, Nat.le_of_ble_eq_true rfl⟩ ⟨Nat.zero_le _, Nat.zero_le _⟩ (fun H locs hP hD hS => ?_)
    refine x_iconst (v := (2 : Int32)) C dX6_creates_153 (by decide) ?_
    refine x_iadd C dX6_creates_154 ?_
    refine x_aload_n C dX6_creates_155 rfl hl 3 rfl ?_
    refine x_get C inX6 hP 0 rfl rfl 5 (by decide) wf_X6_67 rfl dX6_creates_156 ?_
    refine x_aload_n C dX6_creates_159 rfl hl 3 rfl ?_
    refine x_iload_n C dX6_creates_160 rfl hl 4 rfl ?_
    refine x_iconst (v := (2 : Int32)) C dX6_creates_161 (by decide) ?_
    obtain ⟨u39, hu39, h⟩ := ob_some h
    refine x_callV (As := [.int _, .int _]) (n := 2) C (kX6_of l D cI cS aM _ _ _ hu39) (fun hh => nomatch hh) wm_X6_44 wi_X6_of we_X6_of wz_X6 wc_X6_of (by decide +kernel) rfl hP hD hS hA 0 3 rfl rfl rfl hl.1 dX6_creates_162 rfl (Nat.le_of_ble_eq_true rfl) ⟨Nat.le_of_ble_eq_true rfl, Nat.le_of_ble_eq_true rfl⟩ ⟨Nat.zero_le _, Nat.zero_le _⟩ (fun H locs hP hD hS => ?_)
    refine x_iadd C dX6_creates_165 ?_
    refine x_iastM (wM cI aM) C h hP hD hS 1 rfl (t0 := 0) rfl rfl dX6_creates_166 (fun S40 h H locs hP hD hS => ?_)
    refine x_aload_n C dX6_creates_167 rfl hl 3 rfl ?_
    refine x_get C inX6 hP 0 rfl rfl 0 (by decide) wf_X6_7 rfl dX6_creates_168 ?_
    refine x_aload_n C dX6_creates_171 rfl hl 3 rfl ?_
    refine x_iload C dX6_creates_172 hl 0 rfl ?_
    obtain ⟨u41, hu41, h⟩ := ob_some h
    refine x_callV (As := [.int _]) (n := 1) C (kX6_row l D cI cS aM _ _ hu41) (fun hh => nomatch hh) wm_X6_48 wi_X6_row we_X6_row wz_X6 wc_X6_row (by decide +kernel) rfl hP hD hS hA 0 3 rfl rfl rfl hl.1 dX6_creates_174 rfl (Nat.le_of_ble_eq_true rfl) ⟨Nat.le_of_ble_eq_true rfl, Nat.le_of_ble_eq_true rfl⟩ ⟨Nat.zero_le _, Nat.zero_le _⟩ (fun H locs hP hD hS => ?_)
    refine x_iconst (v := (3 : Int32)) C dX6_creates_177 (by decide) ?_
    refine x_iadd C dX6_creates_178 ?_
    refine x_iconst (v := (0 : Int32)) C dX6_creates_179 (by decide) ?_
    refine x_iastM (wM cI aM) C h hP hD hS 1 rfl (t0 := 0) rfl rfl dX6_creates_180 (fun S42 h H locs hP hD hS => ?_)
    refine x_aload_n C dX6_creates_181 rfl hl 3 rfl ?_
    refine x_get C inX6 hP 0 rfl rfl 0 (by decide) wf_X6_7 rfl dX6_creates_182 ?_
    refine x_aload_n C dX6_creates_185 rfl hl 3 rfl ?_
    refine x_iload C dX6_creates_186 hl 0 rfl ?_
    obtain ⟨u43, hu43, h⟩ := ob_some h
    refine x_callV (As := [.int _]) (n := 1) C (kX6_row l D cI cS aM _ _ hu43) (fun hh => nomatch hh) wm_X6_48 wi_X6_row we_X6_row wz_X6 wc_X6_row (by decide +kernel) rfl hP hD hS hA 0 3 rfl rfl rfl hl.1 dX6_creates_188 rfl (Nat.le_of_ble_eq_true rfl) ⟨Nat.le_of_ble_eq_true rfl, Nat.le_of_ble_eq_true rfl⟩ ⟨Nat.zero_le _, Nat.zero_le _⟩ (fun H locs hP hD hS => ?_)
    refine x_bipush (v := (6 : Int32)) C dX6_creates_191 (by decide) ?_
    refine x_iadd C dX6_creates_193 ?_
    refine x_iconst (v := (0 : Int32)) C dX6_creates_194 (by decide) ?_
    refine x_iastM (wM cI aM) C h hP hD hS 1 rfl (t0 := 0) rfl rfl dX6_creates_195 (fun S44 h H locs hP hD hS => ?_)
    refine x_aload_n C dX6_creates_196 rfl hl 3 rfl ?_
    refine x_iload C dX6_creates_197 hl 0 rfl ?_
    obtain ⟨u45, hu45, h⟩ := ob_some h
    refine x_callV (As := [.int _]) (n := 1) C (kX6_sends l D cI cS aM _ _ hu45) (fun hh => nomatch hh) wm_X6_109 wi_X6_sends we_X6_sends wz_X6 wc_X6_sends (by decide +kernel) rfl hP hD hS hA 0 3 rfl rfl rfl hl.1 dX6_creates_199 rfl (Nat.le_of_ble_eq_true rfl) ⟨Nat.le_of_ble_eq_true rfl, Nat.le_of_ble_eq_true rfl⟩ ⟨Nat.zero_le _, Nat.zero_le _⟩ (fun H locs hP hD hS => ?_)
    exact RETh dX6_creates_202 h hP hD hS
  · refine x_aload_n C dX6_creates_66 rfl hl 2 rfl ?_
    refine x_iload_n C dX6_creates_67 rfl hl 3 rfl ?_
    refine x_iconst (v := (3 : Int32)) C dX6_creates_68 (by decide) ?_
    refine x_iconst (v := (1 : Int32)) C dX6_creates_69 (by decide) ?_
    obtain ⟨u46, hu46, h⟩ := ob_some h
    refine x_callV (As := [.int _, .int _, .int _]) (n := 3) C (kX6_counts l D cI cS aM _ _ _ _ hu46) (fun hh => nomatch hh) wm_X6_60 wi_X6_counts we_X6_counts wz_X6 wc_X6_counts (by decide +kernel) rfl hP hD hS hA 0 3 rfl rfl rfl hl.1 dX6_creates_70 rfl (Nat.le_of_ble_eq_true rfl) ⟨Nat.le_of_ble_eq_true rfl, Nat.le_of_ble_eq_true rfl⟩ ⟨Nat.zero_le _, Nat.zero_le _⟩ (fun H locs hP hD hS => ?_)
    exact RETh dX6_creates_73 h hP hD hS
theorem dX6_factorOf_0 : decode cX6_factorOf 0 = .ok (.aload_n 0, 1) := by decide +kernel
theorem dX6_factorOf_1 : decode cX6_factorOf 1 = .ok (.getfield 7, 3) := by decide +kernel
theorem dX6_factorOf_4 : decode cX6_factorOf 4 = .ok (.bipush 72, 2) := by decide +kernel
theorem dX6_factorOf_6 : decode cX6_factorOf 6 = .ok (.iconst 3, 1) := by decide +kernel
theorem dX6_factorOf_7 : decode cX6_factorOf 7 = .ok (.iload_n 1, 1) := by decide +kernel
theorem dX6_factorOf_8 : decode cX6_factorOf 8 = .ok (.imul, 1) := by decide +kernel
theorem dX6_factorOf_9 : decode cX6_factorOf 9 = .ok (.iadd, 1) := by decide +kernel
theorem dX6_factorOf_10 : decode cX6_factorOf 10 = .ok (.iaload, 1) := by decide +kernel
theorem dX6_factorOf_11 : decode cX6_factorOf 11 = .ok (.ifCond .le 45, 3) := by decide +kernel
theorem dX6_factorOf_14 : decode cX6_factorOf 14 = .ok (.aload_n 0, 1) := by decide +kernel
theorem dX6_factorOf_15 : decode cX6_factorOf 15 = .ok (.getfield 67, 3) := by decide +kernel
theorem dX6_factorOf_18 : decode cX6_factorOf 18 = .ok (.aload_n 0, 1) := by decide +kernel
theorem dX6_factorOf_19 : decode cX6_factorOf 19 = .ok (.getfield 7, 3) := by decide +kernel
theorem dX6_factorOf_22 : decode cX6_factorOf 22 = .ok (.bipush 72, 2) := by decide +kernel
theorem dX6_factorOf_24 : decode cX6_factorOf 24 = .ok (.iconst 3, 1) := by decide +kernel
theorem dX6_factorOf_25 : decode cX6_factorOf 25 = .ok (.iload_n 1, 1) := by decide +kernel
theorem dX6_factorOf_26 : decode cX6_factorOf 26 = .ok (.imul, 1) := by decide +kernel
theorem dX6_factorOf_27 : decode cX6_factorOf 27 = .ok (.iadd, 1) := by decide +kernel
theorem dX6_factorOf_28 : decode cX6_factorOf 28 = .ok (.iconst 1, 1) := by decide +kernel
theorem dX6_factorOf_29 : decode cX6_factorOf 29 = .ok (.iadd, 1) := by decide +kernel
theorem dX6_factorOf_30 : decode cX6_factorOf 30 = .ok (.iaload, 1) := by decide +kernel
theorem dX6_factorOf_31 : decode cX6_factorOf 31 = .ok (.aload_n 0, 1) := by decide +kernel
theorem dX6_factorOf_32 : decode cX6_factorOf 32 = .ok (.getfield 7, 3) := by decide +kernel
theorem dX6_factorOf_35 : decode cX6_factorOf 35 = .ok (.bipush 72, 2) := by decide +kernel
theorem dX6_factorOf_37 : decode cX6_factorOf 37 = .ok (.iconst 3, 1) := by decide +kernel
theorem dX6_factorOf_38 : decode cX6_factorOf 38 = .ok (.iload_n 1, 1) := by decide +kernel
theorem dX6_factorOf_39 : decode cX6_factorOf 39 = .ok (.imul, 1) := by decide +kernel
theorem dX6_factorOf_40 : decode cX6_factorOf 40 = .ok (.iadd, 1) := by decide +kernel
theorem dX6_factorOf_41 : decode cX6_factorOf 41 = .ok (.iconst 2, 1) := by decide +kernel
theorem dX6_factorOf_42 : decode cX6_factorOf 42 = .ok (.iadd, 1) := by decide +kernel
theorem dX6_factorOf_43 : decode cX6_factorOf 43 = .ok (.iaload, 1) := by decide +kernel
theorem dX6_factorOf_44 : decode cX6_factorOf 44 = .ok (.iconst 1, 1) := by decide +kernel
theorem dX6_factorOf_45 : decode cX6_factorOf 45 = .ok (.isub, 1) := by decide +kernel
theorem dX6_factorOf_46 : decode cX6_factorOf 46 = .ok (.invokestatic 33, 3) := by decide +kernel
theorem dX6_factorOf_49 : decode cX6_factorOf 49 = .ok (.ifCond .eq 7, 3) := by decide +kernel
theorem dX6_factorOf_52 : decode cX6_factorOf 52 = .ok (.iconst 1, 1) := by decide +kernel
theorem dX6_factorOf_53 : decode cX6_factorOf 53 = .ok (.goto 4, 3) := by decide +kernel
theorem dX6_factorOf_56 : decode cX6_factorOf 56 = .ok (.iconst 0, 1) := by decide +kernel
theorem dX6_factorOf_57 : decode cX6_factorOf 57 = .ok (.istore_n 2, 1) := by decide +kernel
theorem dX6_factorOf_58 : decode cX6_factorOf 58 = .ok (.iload_n 2, 1) := by decide +kernel
theorem dX6_factorOf_59 : decode cX6_factorOf 59 = .ok (.ifCond .eq 17, 3) := by decide +kernel
theorem dX6_factorOf_62 : decode cX6_factorOf 62 = .ok (.aload_n 0, 1) := by decide +kernel
theorem dX6_factorOf_63 : decode cX6_factorOf 63 = .ok (.getfield 7, 3) := by decide +kernel
theorem dX6_factorOf_66 : decode cX6_factorOf 66 = .ok (.bipush 72, 2) := by decide +kernel
theorem dX6_factorOf_68 : decode cX6_factorOf 68 = .ok (.iconst 3, 1) := by decide +kernel
theorem dX6_factorOf_69 : decode cX6_factorOf 69 = .ok (.iload_n 1, 1) := by decide +kernel
theorem dX6_factorOf_70 : decode cX6_factorOf 70 = .ok (.imul, 1) := by decide +kernel
theorem dX6_factorOf_71 : decode cX6_factorOf 71 = .ok (.iadd, 1) := by decide +kernel
theorem dX6_factorOf_72 : decode cX6_factorOf 72 = .ok (.iaload, 1) := by decide +kernel
theorem dX6_factorOf_73 : decode cX6_factorOf 73 = .ok (.goto 4, 3) := by decide +kernel
theorem dX6_factorOf_76 : decode cX6_factorOf 76 = .ok (.iconst 1, 1) := by decide +kernel
theorem dX6_factorOf_77 : decode cX6_factorOf 77 = .ok (.ireturn, 1) := by decide +kernel
def bfX6_factorOf_77 (p1 : Int32) (S : MS) (s0 : Int32) : Option (Int32) :=
  some s0
def bfX6_factorOf_57 (p1 : Int32) (S : MS) (s0 : Int32) : Option (Int32) :=
  (if s0 = 0 then bfX6_factorOf_77 p1 S  ((1 : Int32)) else (if okI ((72 : Int32) + ((3 : Int32) * p1)) 5130 then bfX6_factorOf_77 p1 S  ((S.1 (((72 : Int32) + ((3 : Int32) * p1))).toNatClampNeg)) else none))
def bfX6_factorOf_56 (p1 : Int32) (S : MS) : Option (Int32) :=
  bfX6_factorOf_57 p1 S  ((0 : Int32))
def fX6_factorOf (p1 : Int32) (S : MS) : Option (Int32) :=
  (if okI ((72 : Int32) + ((3 : Int32) * p1)) 5130 then (if (S.1 (((72 : Int32) + ((3 : Int32) * p1))).toNatClampNeg) ≤ 0 then bfX6_factorOf_56 p1 S else (if okI (((72 : Int32) + ((3 : Int32) * p1)) + (1 : Int32)) 5130 then (if okI (((72 : Int32) + ((3 : Int32) * p1)) + (2 : Int32)) 5130 then ob (fX6_in (S.2.2 5) ((S.1 ((((72 : Int32) + ((3 : Int32) * p1)) + (1 : Int32))).toNatClampNeg)) (((S.1 ((((72 : Int32) + ((3 : Int32) * p1)) + (2 : Int32))).toNatClampNeg) - (1 : Int32)))) fun u2 => (if u2 = 0 then bfX6_factorOf_56 p1 S else bfX6_factorOf_57 p1 S  ((1 : Int32))) else none) else none)) else none)
set_option maxHeartbeats 4000000 in
set_option maxRecDepth 100000 in
theorem kX6_factorOf (l : Launch) (D : va_G) (cI cS : ClassId) (aM : Nat → Nat) (p1 : Int32) (S : MS) {q : Int32} (h : fX6_factorOf p1 S = some q) : Mc l D (tyL cI cS) false yX6_factorOf cX6_factorOf 3 (some .int) 2 [.ref (aM 0), .int p1] (wM cI aM S) (some (.int q)) (wM cI aM S) := by
  refine Mc_of RX6 (by decide +kernel) rfl wc_X6_factorOf (Nat.le_of_ble_eq_true rfl) ?_
  intro p e s m args below meth c A Q ls C hA hz hP hD hS hl RET
  have RETh : ∀ {pc : Nat} {ls : Array Slot} {H : Heap} {locs : List Loc} {x : Int32} , decode cX6_factorOf pc = .ok (.ireturn, 1) → some x = some q → va_P D vwCl (wM cI aM S) H → va_D A (wM cI aM S) → va_S A s.heap H locs → W p l e (rmL 2) s m args below meth c H locs 0 0 Q (F0 m pc ls [.int x]) := by
    intro pc ls H locs x hd h hP hD hS; cases h; exact RET (x_iret C hd) hP hD hS
  have B77 : ∀ (s0 : Int32), bfX6_factorOf_77 p1 S s0 = some q → ∀ (H : Heap) (locs : List Loc) (ls : Array Slot), va_P D vwCl (wM cI aM S) H → va_D A (wM cI aM S) → va_S A s.heap H locs → lv_has ls 3 [] → W p l e (rmL 2) s m args below meth c H locs 0 0 Q (F0 m 77 ls [.int s0]) := by
    intro s0 h H locs ls hP hD hS hl
    exact RETh dX6_factorOf_77 h hP hD hS
  have B57 : ∀ (s0 : Int32), bfX6_factorOf_57 p1 S s0 = some q → ∀ (H : Heap) (locs : List Loc) (ls : Array Slot), va_P D vwCl (wM cI aM S) H → va_D A (wM cI aM S) → va_S A s.heap H locs → lv_has ls 3 [(0, .ref (aM 0)), (1, .int p1)] → W p l e (rmL 2) s m args below meth c H locs 0 0 Q (F0 m 57 ls [.int s0]) := by
    intro s0 h H locs ls hP hD hS hl
    refine x_istore_n (lv' := [(2, .int s0), (0, .ref (aM 0)), (1, .int p1)]) C dX6_factorOf_57 rfl hl (by decide) rfl (fun ls hl => ?_)
    refine x_iload_n C dX6_factorOf_58 rfl hl 0 rfl ?_
    refine x_if_eq (tgt := 76) C h dX6_factorOf_59 (by decide) (fun h => ?_) (fun h => ?_)
    · refine x_iconst (v := (1 : Int32)) C dX6_factorOf_76 (by decide) ?_
      exact B77 _ h _ _ _ hP hD hS (lv_sub hl [] rfl)
    · refine x_aload_n C dX6_factorOf_62 rfl hl 1 rfl ?_
      refine x_get C inX6 hP 0 rfl rfl 0 (by decide) wf_X6_7 rfl dX6_factorOf_63 ?_
      refine x_bipush (v := (72 : Int32)) C dX6_factorOf_66 (by decide) ?_
      refine x_iconst (v := (3 : Int32)) C dX6_factorOf_68 (by decide) ?_
      refine x_iload_n C dX6_factorOf_69 rfl hl 2 rfl ?_
      refine x_imul C dX6_factorOf_70 ?_
      refine x_iadd C dX6_factorOf_71 ?_
      refine x_iald C h hP 1 rfl (t0 := 0) rfl dX6_factorOf_72 (fun h => ?_)
      refine x_goto (tgt := 77) C dX6_factorOf_73 (by decide) ?_
      exact B77 _ h _ _ _ hP hD hS (lv_sub hl [] rfl)
  have B56 : bfX6_factorOf_56 p1 S = some q → ∀ (H : Heap) (locs : List Loc) (ls : Array Slot), va_P D vwCl (wM cI aM S) H → va_D A (wM cI aM S) → va_S A s.heap H locs → lv_has ls 3 [(0, .ref (aM 0)), (1, .int p1)] → W p l e (rmL 2) s m args below meth c H locs 0 0 Q (F0 m 56 ls []) := by
    intro  h H locs ls hP hD hS hl
    refine x_iconst (v := (0 : Int32)) C dX6_factorOf_56 (by decide) ?_
    exact B57 _ h _ _ _ hP hD hS hl
  refine x_aload_n C dX6_factorOf_0 rfl hl 0 rfl ?_
  refine x_get C inX6 hP 0 rfl rfl 0 (by decide) wf_X6_7 rfl dX6_factorOf_1 ?_
  refine x_bipush (v := (72 : Int32)) C dX6_factorOf_4 (by decide) ?_
  refine x_iconst (v := (3 : Int32)) C dX6_factorOf_6 (by decide) ?_
  refine x_iload_n C dX6_factorOf_7 rfl hl 1 rfl ?_
  refine x_imul C dX6_factorOf_8 ?_
  refine x_iadd C dX6_factorOf_9 ?_
  refine x_iald C h hP 1 rfl (t0 := 0) rfl dX6_factorOf_10 (fun h => ?_)
  refine x_if_le (tgt := 56) C h dX6_factorOf_11 (by decide) (fun h => ?_) (fun h => ?_)
  · exact B56  h _ _ _ hP hD hS hl
  · refine x_aload_n C dX6_factorOf_14 rfl hl 0 rfl ?_
    refine x_get C inX6 hP 0 rfl rfl 5 (by decide) wf_X6_67 rfl dX6_factorOf_15 ?_
    refine x_aload_n C dX6_factorOf_18 rfl hl 0 rfl ?_
    refine x_get C inX6 hP 0 rfl rfl 0 (by decide) wf_X6_7 rfl dX6_factorOf_19 ?_
    refine x_bipush (v := (72 : Int32)) C dX6_factorOf_22 (by decide) ?_
    refine x_iconst (v := (3 : Int32)) C dX6_factorOf_24 (by decide) ?_
    refine x_iload_n C dX6_factorOf_25 rfl hl 1 rfl ?_
    refine x_imul C dX6_factorOf_26 ?_
    refine x_iadd C dX6_factorOf_27 ?_
    refine x_iconst (v := (1 : Int32)) C dX6_factorOf_28 (by decide) ?_
    refine x_iadd C dX6_factorOf_29 ?_
    refine x_iald C h hP 1 rfl (t0 := 0) rfl dX6_factorOf_30 (fun h => ?_)
    refine x_aload_n C dX6_factorOf_31 rfl hl 0 rfl ?_
    refine x_get C inX6 hP 0 rfl rfl 0 (by decide) wf_X6_7 rfl dX6_factorOf_32 ?_
    refine x_bipush (v := (72 : Int32)) C dX6_factorOf_35 (by decide) ?_
    refine x_iconst (v := (3 : Int32)) C dX6_factorOf_37 (by decide) ?_
    refine x_iload_n C dX6_factorOf_38 rfl hl 1 rfl ?_
    refine x_imul C dX6_factorOf_39 ?_
    refine x_iadd C dX6_factorOf_40 ?_
    refine x_iconst (v := (2 : Int32)) C dX6_factorOf_41 (by decide) ?_
    refine x_iadd C dX6_factorOf_42 ?_
    refine x_iald C h hP 1 rfl (t0 := 0) rfl dX6_factorOf_43 (fun h => ?_)
    refine x_iconst (v := (1 : Int32)) C dX6_factorOf_44 (by decide) ?_
    refine x_isub C dX6_factorOf_45 ?_
    obtain ⟨u2, hu2, h⟩ := ob_some h
    refine x_callS (As := [.int _, .int _, .int _]) (n := 3) C (kX6_in l D cI cS _ _ _ _ hu2) (fun hh => nomatch hh) wm_X6_33 wt_X6_in wz_X6 wc_X6_in (by decide +kernel) rfl hP hD hS hA hl.1 dX6_factorOf_46 rfl (Nat.le_of_ble_eq_true rfl) ⟨Nat.le_of_ble_eq_true rfl, Nat.le_of_ble_eq_true rfl⟩ ⟨Nat.zero_le _, Nat.zero_le _⟩ (fun H locs hP hD hS => ?_)
    refine x_if_eq (tgt := 56) C h dX6_factorOf_49 (by decide) (fun h => ?_) (fun h => ?_)
    · exact B56  h _ _ _ hP hD hS hl
    · refine x_iconst (v := (1 : Int32)) C dX6_factorOf_52 (by decide) ?_
      refine x_goto (tgt := 57) C dX6_factorOf_53 (by decide) ?_
      exact B57 _ h _ _ _ hP hD hS hl
theorem dX6_finishesBack_0 : decode cX6_finishesBack 0 = .ok (.aload_n 0, 1) := by decide +kernel
theorem dX6_finishesBack_1 : decode cX6_finishesBack 1 = .ok (.getfield 7, 3) := by decide +kernel
theorem dX6_finishesBack_4 : decode cX6_finishesBack 4 = .ok (.sipush 595, 3) := by decide +kernel
theorem dX6_finishesBack_7 : decode cX6_finishesBack 7 = .ok (.iload_n 1, 1) := by decide +kernel
theorem dX6_finishesBack_8 : decode cX6_finishesBack 8 = .ok (.iadd, 1) := by decide +kernel
theorem dX6_finishesBack_9 : decode cX6_finishesBack 9 = .ok (.iaload, 1) := by decide +kernel
theorem dX6_finishesBack_10 : decode cX6_finishesBack 10 = .ok (.istore_n 2, 1) := by decide +kernel
theorem dX6_finishesBack_11 : decode cX6_finishesBack 11 = .ok (.iload_n 2, 1) := by decide +kernel
theorem dX6_finishesBack_12 : decode cX6_finishesBack 12 = .ok (.bipush (-9), 2) := by decide +kernel
theorem dX6_finishesBack_14 : decode cX6_finishesBack 14 = .ok (.if_icmp .eq 59, 3) := by decide +kernel
theorem dX6_finishesBack_17 : decode cX6_finishesBack 17 = .ok (.aload_n 0, 1) := by decide +kernel
theorem dX6_finishesBack_18 : decode cX6_finishesBack 18 = .ok (.getfield 7, 3) := by decide +kernel
theorem dX6_finishesBack_21 : decode cX6_finishesBack 21 = .ok (.aload_n 0, 1) := by decide +kernel
theorem dX6_finishesBack_22 : decode cX6_finishesBack 22 = .ok (.iload_n 2, 1) := by decide +kernel
theorem dX6_finishesBack_23 : decode cX6_finishesBack 23 = .ok (.invokevirtual 74, 3) := by decide +kernel
theorem dX6_finishesBack_26 : decode cX6_finishesBack 26 = .ok (.iconst 5, 1) := by decide +kernel
theorem dX6_finishesBack_27 : decode cX6_finishesBack 27 = .ok (.iadd, 1) := by decide +kernel
theorem dX6_finishesBack_28 : decode cX6_finishesBack 28 = .ok (.iaload, 1) := by decide +kernel
theorem dX6_finishesBack_29 : decode cX6_finishesBack 29 = .ok (.ifCond .ne 44, 3) := by decide +kernel
theorem dX6_finishesBack_32 : decode cX6_finishesBack 32 = .ok (.aload_n 0, 1) := by decide +kernel
theorem dX6_finishesBack_33 : decode cX6_finishesBack 33 = .ok (.getfield 7, 3) := by decide +kernel
theorem dX6_finishesBack_36 : decode cX6_finishesBack 36 = .ok (.sipush 595, 3) := by decide +kernel
theorem dX6_finishesBack_39 : decode cX6_finishesBack 39 = .ok (.iload_n 1, 1) := by decide +kernel
theorem dX6_finishesBack_40 : decode cX6_finishesBack 40 = .ok (.iadd, 1) := by decide +kernel
theorem dX6_finishesBack_41 : decode cX6_finishesBack 41 = .ok (.bipush (-9), 2) := by decide +kernel
theorem dX6_finishesBack_43 : decode cX6_finishesBack 43 = .ok (.iastore, 1) := by decide +kernel
theorem dX6_finishesBack_44 : decode cX6_finishesBack 44 = .ok (.aload_n 0, 1) := by decide +kernel
theorem dX6_finishesBack_45 : decode cX6_finishesBack 45 = .ok (.getfield 7, 3) := by decide +kernel
theorem dX6_finishesBack_48 : decode cX6_finishesBack 48 = .ok (.sipush 591, 3) := by decide +kernel
theorem dX6_finishesBack_51 : decode cX6_finishesBack 51 = .ok (.aload_n 0, 1) := by decide +kernel
theorem dX6_finishesBack_52 : decode cX6_finishesBack 52 = .ok (.getfield 7, 3) := by decide +kernel
theorem dX6_finishesBack_55 : decode cX6_finishesBack 55 = .ok (.aload_n 0, 1) := by decide +kernel
theorem dX6_finishesBack_56 : decode cX6_finishesBack 56 = .ok (.iload_n 2, 1) := by decide +kernel
theorem dX6_finishesBack_57 : decode cX6_finishesBack 57 = .ok (.invokevirtual 74, 3) := by decide +kernel
theorem dX6_finishesBack_60 : decode cX6_finishesBack 60 = .ok (.bipush 8, 2) := by decide +kernel
theorem dX6_finishesBack_62 : decode cX6_finishesBack 62 = .ok (.iadd, 1) := by decide +kernel
theorem dX6_finishesBack_63 : decode cX6_finishesBack 63 = .ok (.iaload, 1) := by decide +kernel
theorem dX6_finishesBack_64 : decode cX6_finishesBack 64 = .ok (.iadd, 1) := by decide +kernel
theorem dX6_finishesBack_65 : decode cX6_finishesBack 65 = .ok (.bipush (-9), 2) := by decide +kernel
theorem dX6_finishesBack_67 : decode cX6_finishesBack 67 = .ok (.iastore, 1) := by decide +kernel
theorem dX6_finishesBack_68 : decode cX6_finishesBack 68 = .ok (.aload_n 0, 1) := by decide +kernel
theorem dX6_finishesBack_69 : decode cX6_finishesBack 69 = .ok (.iload_n 2, 1) := by decide +kernel
theorem dX6_finishesBack_70 : decode cX6_finishesBack 70 = .ok (.invokevirtual 121, 3) := by decide +kernel
theorem dX6_finishesBack_73 : decode cX6_finishesBack 73 = .ok (.return_, 1) := by decide +kernel
def bfX6_finishesBack_73 (p1 : Int32) (S : MS) : Option (MS) :=
  some S
def fX6_finishesBack (p1 : Int32) (S : MS) : Option (MS) :=
  (if okI ((595 : Int32) + p1) 5130 then nm ((S.1 (((595 : Int32) + p1)).toNatClampNeg)) fun v7 => (if v7 = (-9 : Int32) then bfX6_finishesBack_73 p1  S else ob (fX6_slot v7 S) fun u8 => (if okI (u8 + (5 : Int32)) 5130 then (if (S.1 ((u8 + (5 : Int32))).toNatClampNeg) = 0 then (if okI ((595 : Int32) + p1) 5130 then nm (upd S.1 (((595 : Int32) + p1)).toNatClampNeg (-9 : Int32), S.2) fun S9 => ob (fX6_slot v7 S9) fun u10 => (if okI (u10 + (8 : Int32)) 5130 then (if okI ((591 : Int32) + (S9.1 ((u10 + (8 : Int32))).toNatClampNeg)) 5130 then nm (upd S9.1 (((591 : Int32) + (S9.1 ((u10 + (8 : Int32))).toNatClampNeg))).toNatClampNeg (-9 : Int32), S9.2) fun S11 => ob (fX6_answers v7 S11) fun u12 => bfX6_finishesBack_73 p1  u12 else none) else none) else none) else bfX6_finishesBack_73 p1  S) else none)) else none)
set_option maxHeartbeats 4000000 in
set_option maxRecDepth 100000 in
theorem kX6_finishesBack (l : Launch) (D : va_G) (cI cS : ClassId) (aM : Nat → Nat) (p1 : Int32) (S : MS) {q : MS} (h : fX6_finishesBack p1 S = some q) : Mc l D (tyL cI cS) false yX6_finishesBack cX6_finishesBack 3 none 4 [.ref (aM 0), .int p1] (wM cI aM S) none (wM cI aM q) := by
  refine Mc_of RX6 (by decide +kernel) rfl wc_X6_finishesBack (Nat.le_of_ble_eq_true rfl) ?_
  intro p e s m args below meth c A Q ls C hA hz hP hD hS hl RET
  have RETh : ∀ {pc : Nat} {ls : Array Slot} {H : Heap} {locs : List Loc} {S1 : MS}, decode cX6_finishesBack pc = .ok (.return_, 1) → some S1 = some q → va_P D vwCl (wM cI aM S1) H → va_D A (wM cI aM S1) → va_S A s.heap H locs → W p l e (rmL 4) s m args below meth c H locs 0 0 Q (F0 m pc ls []) := by
    intro pc ls H locs S1 hd h hP hD hS; cases h; exact RET (x_vret C hd) hP hD hS
  have B73 : ∀ (S : MS), bfX6_finishesBack_73 p1 S = some q → ∀ (H : Heap) (locs : List Loc) (ls : Array Slot), va_P D vwCl (wM cI aM S) H → va_D A (wM cI aM S) → va_S A s.heap H locs → lv_has ls 3 [] → W p l e (rmL 4) s m args below meth c H locs 0 0 Q (F0 m 73 ls []) := by
    intro S h H locs ls hP hD hS hl
    exact RETh dX6_finishesBack_73 h hP hD hS
  refine x_aload_n C dX6_finishesBack_0 rfl hl 0 rfl ?_
  refine x_get C inX6 hP 0 rfl rfl 0 (by decide) wf_X6_7 rfl dX6_finishesBack_1 ?_
  refine x_sipush (v := (595 : Int32)) C dX6_finishesBack_4 (by decide) ?_
  refine x_iload_n C dX6_finishesBack_7 rfl hl 1 rfl ?_
  refine x_iadd C dX6_finishesBack_8 ?_
  refine x_iald C h hP 1 rfl (t0 := 0) rfl dX6_finishesBack_9 (fun h => ?_)
  refine x_nmi h (fun v7 h => ?_)
  refine x_istore_n (lv' := [(2, .int v7), (0, .ref (aM 0)), (1, .int p1)]) C dX6_finishesBack_10 rfl hl (by decide) rfl (fun ls hl => ?_)
  refine x_iload_n C dX6_finishesBack_11 rfl hl 0 rfl ?_
  refine x_bipush (v := (-9 : Int32)) C dX6_finishesBack_12 (by decide) ?_
  refine x_icmp_eq (tgt := 73) C h dX6_finishesBack_14 (by decide) (fun h => ?_) (fun h => ?_)
  · exact B73 _ h _ _ _ hP hD hS (lv_sub hl [] rfl)
  · refine x_aload_n C dX6_finishesBack_17 rfl hl 1 rfl ?_
    refine x_get C inX6 hP 0 rfl rfl 0 (by decide) wf_X6_7 rfl dX6_finishesBack_18 ?_
    refine x_aload_n C dX6_finishesBack_21 rfl hl 1 rfl ?_
    refine x_iload_n C dX6_finishesBack_22 rfl hl 0 rfl ?_
    obtain ⟨u8, hu8, h⟩ := ob_some h
    refine x_callV (As := [.int _]) (n := 1) C (kX6_slot l D cI cS aM _ _ hu8) (fun hh => nomatch hh) wm_X6_74 wi_X6_slot we_X6_slot wz_X6 wc_X6_slot (by decide +kernel) rfl hP hD hS hA 0 3 rfl rfl rfl hl.1 dX6_finishesBack_23 rfl (Nat.le_of_ble_eq_true rfl) ⟨Nat.le_of_ble_eq_true rfl, Nat.le_of_ble_eq_true rfl⟩ ⟨Nat.zero_le _, Nat.zero_le _⟩ (fun H locs hP hD hS => ?_)
    refine x_iconst (v := (5 : Int32)) C dX6_finishesBack_26 (by decide) ?_
    refine x_iadd C dX6_finishesBack_27 ?_
    refine x_iald C h hP 1 rfl (t0 := 0) rfl dX6_finishesBack_28 (fun h => ?_)
    refine x_if_ne (tgt := 73) C h dX6_finishesBack_29 (by decide) (fun h => ?_) (fun h => ?_)
    · exact B73 _ h _ _ _ hP hD hS (lv_sub hl [] rfl)
    · refine x_aload_n C dX6_finishesBack_32 rfl hl 1 rfl ?_
      refine x_get C inX6 hP 0 rfl rfl 0 (by decide) wf_X6_7 rfl dX6_finishesBack_33 ?_
      refine x_sipush (v := (595 : Int32)) C dX6_finishesBack_36 (by decide) ?_
      refine x_iload_n C dX6_finishesBack_39 rfl hl 2 rfl ?_
      refine x_iadd C dX6_finishesBack_40 ?_
      refine x_bipush (v := (-9 : Int32)) C dX6_finishesBack_41 (by decide) ?_
      refine x_iastM (wM cI aM) C h hP hD hS 1 rfl (t0 := 0) rfl rfl dX6_finishesBack_43 (fun S9 h H locs hP hD hS => ?_)
      refine x_aload_n C dX6_finishesBack_44 rfl hl 1 rfl ?_
      refine x_get C inX6 hP 0 rfl rfl 0 (by decide) wf_X6_7 rfl dX6_finishesBack_45 ?_
      refine x_sipush (v := (591 : Int32)) C dX6_finishesBack_48 (by decide) ?_
      refine x_aload_n C dX6_finishesBack_51 rfl hl 1 rfl ?_
      refine x_get C inX6 hP 0 rfl rfl 0 (by decide) wf_X6_7 rfl dX6_finishesBack_52 ?_
      refine x_aload_n C dX6_finishesBack_55 rfl hl 1 rfl ?_
      refine x_iload_n C dX6_finishesBack_56 rfl hl 0 rfl ?_
      obtain ⟨u10, hu10, h⟩ := ob_some h
      refine x_callV (As := [.int _]) (n := 1) C (kX6_slot l D cI cS aM _ _ hu10) (fun hh => nomatch hh) wm_X6_74 wi_X6_slot we_X6_slot wz_X6 wc_X6_slot (by decide +kernel) rfl hP hD hS hA 0 3 rfl rfl rfl hl.1 dX6_finishesBack_57 rfl (Nat.le_of_ble_eq_true rfl) ⟨Nat.le_of_ble_eq_true rfl, Nat.le_of_ble_eq_true rfl⟩ ⟨Nat.zero_le _, Nat.zero_le _⟩ (fun H locs hP hD hS => ?_)
      refine x_bipush (v := (8 : Int32)) C dX6_finishesBack_60 (by decide) ?_
      refine x_iadd C dX6_finishesBack_62 ?_
      refine x_iald C h hP 1 rfl (t0 := 0) rfl dX6_finishesBack_63 (fun h => ?_)
      refine x_iadd C dX6_finishesBack_64 ?_
      refine x_bipush (v := (-9 : Int32)) C dX6_finishesBack_65 (by decide) ?_
      refine x_iastM (wM cI aM) C h hP hD hS 1 rfl (t0 := 0) rfl rfl dX6_finishesBack_67 (fun S11 h H locs hP hD hS => ?_)
      refine x_aload_n C dX6_finishesBack_68 rfl hl 1 rfl ?_
      refine x_iload_n C dX6_finishesBack_69 rfl hl 0 rfl ?_
      obtain ⟨u12, hu12, h⟩ := ob_some h
      refine x_callV (As := [.int _]) (n := 1) C (kX6_answers l D cI cS aM _ _ hu12) (fun hh => nomatch hh) wm_X6_121 wi_X6_answers we_X6_answers wz_X6 wc_X6_answers (by decide +kernel) rfl hP hD hS hA 0 3 rfl rfl rfl hl.1 dX6_finishesBack_70 rfl (Nat.le_of_ble_eq_true rfl) ⟨Nat.le_of_ble_eq_true rfl, Nat.le_of_ble_eq_true rfl⟩ ⟨Nat.zero_le _, Nat.zero_le _⟩ (fun H locs hP hD hS => ?_)
      exact B73 _ h _ _ _ hP hD hS (lv_sub hl [] rfl)
theorem dX6_finishesFront_0 : decode cX6_finishesFront 0 = .ok (.aload_n 0, 1) := by decide +kernel
theorem dX6_finishesFront_1 : decode cX6_finishesFront 1 = .ok (.getfield 7, 3) := by decide +kernel
theorem dX6_finishesFront_4 : decode cX6_finishesFront 4 = .ok (.sipush 591, 3) := by decide +kernel
theorem dX6_finishesFront_7 : decode cX6_finishesFront 7 = .ok (.iload_n 1, 1) := by decide +kernel
theorem dX6_finishesFront_8 : decode cX6_finishesFront 8 = .ok (.iadd, 1) := by decide +kernel
theorem dX6_finishesFront_9 : decode cX6_finishesFront 9 = .ok (.iaload, 1) := by decide +kernel
theorem dX6_finishesFront_10 : decode cX6_finishesFront 10 = .ok (.istore_n 2, 1) := by decide +kernel
theorem dX6_finishesFront_11 : decode cX6_finishesFront 11 = .ok (.iload_n 2, 1) := by decide +kernel
theorem dX6_finishesFront_12 : decode cX6_finishesFront 12 = .ok (.bipush (-9), 2) := by decide +kernel
theorem dX6_finishesFront_14 : decode cX6_finishesFront 14 = .ok (.if_icmp .eq 35, 3) := by decide +kernel
theorem dX6_finishesFront_17 : decode cX6_finishesFront 17 = .ok (.aload_n 0, 1) := by decide +kernel
theorem dX6_finishesFront_18 : decode cX6_finishesFront 18 = .ok (.getfield 7, 3) := by decide +kernel
theorem dX6_finishesFront_21 : decode cX6_finishesFront 21 = .ok (.aload_n 0, 1) := by decide +kernel
theorem dX6_finishesFront_22 : decode cX6_finishesFront 22 = .ok (.iload_n 2, 1) := by decide +kernel
theorem dX6_finishesFront_23 : decode cX6_finishesFront 23 = .ok (.invokevirtual 74, 3) := by decide +kernel
theorem dX6_finishesFront_26 : decode cX6_finishesFront 26 = .ok (.bipush 7, 2) := by decide +kernel
theorem dX6_finishesFront_28 : decode cX6_finishesFront 28 = .ok (.iadd, 1) := by decide +kernel
theorem dX6_finishesFront_29 : decode cX6_finishesFront 29 = .ok (.iaload, 1) := by decide +kernel
theorem dX6_finishesFront_30 : decode cX6_finishesFront 30 = .ok (.iconst 2, 1) := by decide +kernel
theorem dX6_finishesFront_31 : decode cX6_finishesFront 31 = .ok (.if_icmp .ne 18, 3) := by decide +kernel
theorem dX6_finishesFront_34 : decode cX6_finishesFront 34 = .ok (.aload_n 0, 1) := by decide +kernel
theorem dX6_finishesFront_35 : decode cX6_finishesFront 35 = .ok (.getfield 7, 3) := by decide +kernel
theorem dX6_finishesFront_38 : decode cX6_finishesFront 38 = .ok (.aload_n 0, 1) := by decide +kernel
theorem dX6_finishesFront_39 : decode cX6_finishesFront 39 = .ok (.iload_n 2, 1) := by decide +kernel
theorem dX6_finishesFront_40 : decode cX6_finishesFront 40 = .ok (.invokevirtual 74, 3) := by decide +kernel
theorem dX6_finishesFront_43 : decode cX6_finishesFront 43 = .ok (.iconst 3, 1) := by decide +kernel
theorem dX6_finishesFront_44 : decode cX6_finishesFront 44 = .ok (.iadd, 1) := by decide +kernel
theorem dX6_finishesFront_45 : decode cX6_finishesFront 45 = .ok (.iaload, 1) := by decide +kernel
theorem dX6_finishesFront_46 : decode cX6_finishesFront 46 = .ok (.ifCond .le 4, 3) := by decide +kernel
theorem dX6_finishesFront_49 : decode cX6_finishesFront 49 = .ok (.return_, 1) := by decide +kernel
theorem dX6_finishesFront_50 : decode cX6_finishesFront 50 = .ok (.aload_n 0, 1) := by decide +kernel
theorem dX6_finishesFront_51 : decode cX6_finishesFront 51 = .ok (.getfield 7, 3) := by decide +kernel
theorem dX6_finishesFront_54 : decode cX6_finishesFront 54 = .ok (.aload_n 0, 1) := by decide +kernel
theorem dX6_finishesFront_55 : decode cX6_finishesFront 55 = .ok (.iload_n 2, 1) := by decide +kernel
theorem dX6_finishesFront_56 : decode cX6_finishesFront 56 = .ok (.invokevirtual 74, 3) := by decide +kernel
theorem dX6_finishesFront_59 : decode cX6_finishesFront 59 = .ok (.iconst 4, 1) := by decide +kernel
theorem dX6_finishesFront_60 : decode cX6_finishesFront 60 = .ok (.iadd, 1) := by decide +kernel
theorem dX6_finishesFront_61 : decode cX6_finishesFront 61 = .ok (.iaload, 1) := by decide +kernel
theorem dX6_finishesFront_62 : decode cX6_finishesFront 62 = .ok (.ifCond .ne 23, 3) := by decide +kernel
theorem dX6_finishesFront_65 : decode cX6_finishesFront 65 = .ok (.aload_n 0, 1) := by decide +kernel
theorem dX6_finishesFront_66 : decode cX6_finishesFront 66 = .ok (.getfield 7, 3) := by decide +kernel
theorem dX6_finishesFront_69 : decode cX6_finishesFront 69 = .ok (.sipush 591, 3) := by decide +kernel
theorem dX6_finishesFront_72 : decode cX6_finishesFront 72 = .ok (.iload_n 1, 1) := by decide +kernel
theorem dX6_finishesFront_73 : decode cX6_finishesFront 73 = .ok (.iadd, 1) := by decide +kernel
theorem dX6_finishesFront_74 : decode cX6_finishesFront 74 = .ok (.bipush (-9), 2) := by decide +kernel
theorem dX6_finishesFront_76 : decode cX6_finishesFront 76 = .ok (.iastore, 1) := by decide +kernel
theorem dX6_finishesFront_77 : decode cX6_finishesFront 77 = .ok (.aload_n 0, 1) := by decide +kernel
theorem dX6_finishesFront_78 : decode cX6_finishesFront 78 = .ok (.iload_n 2, 1) := by decide +kernel
theorem dX6_finishesFront_79 : decode cX6_finishesFront 79 = .ok (.invokevirtual 121, 3) := by decide +kernel
theorem dX6_finishesFront_82 : decode cX6_finishesFront 82 = .ok (.goto 68, 3) := by decide +kernel
theorem dX6_finishesFront_85 : decode cX6_finishesFront 85 = .ok (.aload_n 0, 1) := by decide +kernel
theorem dX6_finishesFront_86 : decode cX6_finishesFront 86 = .ok (.getfield 7, 3) := by decide +kernel
theorem dX6_finishesFront_89 : decode cX6_finishesFront 89 = .ok (.sipush 574, 3) := by decide +kernel
theorem dX6_finishesFront_92 : decode cX6_finishesFront 92 = .ok (.iaload, 1) := by decide +kernel
theorem dX6_finishesFront_93 : decode cX6_finishesFront 93 = .ok (.aload_n 0, 1) := by decide +kernel
theorem dX6_finishesFront_94 : decode cX6_finishesFront 94 = .ok (.getfield 7, 3) := by decide +kernel
theorem dX6_finishesFront_97 : decode cX6_finishesFront 97 = .ok (.sipush 177, 3) := by decide +kernel
theorem dX6_finishesFront_100 : decode cX6_finishesFront 100 = .ok (.iaload, 1) := by decide +kernel
theorem dX6_finishesFront_101 : decode cX6_finishesFront 101 = .ok (.if_icmp .ne 24, 3) := by decide +kernel
theorem dX6_finishesFront_104 : decode cX6_finishesFront 104 = .ok (.aload_n 0, 1) := by decide +kernel
theorem dX6_finishesFront_105 : decode cX6_finishesFront 105 = .ok (.getfield 7, 3) := by decide +kernel
theorem dX6_finishesFront_108 : decode cX6_finishesFront 108 = .ok (.sipush 591, 3) := by decide +kernel
theorem dX6_finishesFront_111 : decode cX6_finishesFront 111 = .ok (.iload_n 1, 1) := by decide +kernel
theorem dX6_finishesFront_112 : decode cX6_finishesFront 112 = .ok (.iadd, 1) := by decide +kernel
theorem dX6_finishesFront_113 : decode cX6_finishesFront 113 = .ok (.bipush (-9), 2) := by decide +kernel
theorem dX6_finishesFront_115 : decode cX6_finishesFront 115 = .ok (.iastore, 1) := by decide +kernel
theorem dX6_finishesFront_116 : decode cX6_finishesFront 116 = .ok (.aload_n 0, 1) := by decide +kernel
theorem dX6_finishesFront_117 : decode cX6_finishesFront 117 = .ok (.iload_n 2, 1) := by decide +kernel
theorem dX6_finishesFront_118 : decode cX6_finishesFront 118 = .ok (.iconst 4, 1) := by decide +kernel
theorem dX6_finishesFront_119 : decode cX6_finishesFront 119 = .ok (.invokevirtual 100, 3) := by decide +kernel
theorem dX6_finishesFront_122 : decode cX6_finishesFront 122 = .ok (.goto 28, 3) := by decide +kernel
theorem dX6_finishesFront_125 : decode cX6_finishesFront 125 = .ok (.aload_n 0, 1) := by decide +kernel
theorem dX6_finishesFront_126 : decode cX6_finishesFront 126 = .ok (.getfield 7, 3) := by decide +kernel
theorem dX6_finishesFront_129 : decode cX6_finishesFront 129 = .ok (.aload_n 0, 1) := by decide +kernel
theorem dX6_finishesFront_130 : decode cX6_finishesFront 130 = .ok (.iload_n 2, 1) := by decide +kernel
theorem dX6_finishesFront_131 : decode cX6_finishesFront 131 = .ok (.invokevirtual 74, 3) := by decide +kernel
theorem dX6_finishesFront_134 : decode cX6_finishesFront 134 = .ok (.bipush 7, 2) := by decide +kernel
theorem dX6_finishesFront_136 : decode cX6_finishesFront 136 = .ok (.iadd, 1) := by decide +kernel
theorem dX6_finishesFront_137 : decode cX6_finishesFront 137 = .ok (.iconst 3, 1) := by decide +kernel
theorem dX6_finishesFront_138 : decode cX6_finishesFront 138 = .ok (.iastore, 1) := by decide +kernel
theorem dX6_finishesFront_139 : decode cX6_finishesFront 139 = .ok (.aload_n 0, 1) := by decide +kernel
theorem dX6_finishesFront_140 : decode cX6_finishesFront 140 = .ok (.sipush 574, 3) := by decide +kernel
theorem dX6_finishesFront_143 : decode cX6_finishesFront 143 = .ok (.sipush 575, 3) := by decide +kernel
theorem dX6_finishesFront_146 : decode cX6_finishesFront 146 = .ok (.iload_n 2, 1) := by decide +kernel
theorem dX6_finishesFront_147 : decode cX6_finishesFront 147 = .ok (.invokevirtual 106, 3) := by decide +kernel
theorem dX6_finishesFront_150 : decode cX6_finishesFront 150 = .ok (.return_, 1) := by decide +kernel
def bfX6_finishesFront_150 (p1 : Int32) (S : MS) : Option (MS) :=
  some S
def bfX6_finishesFront_49 (p1 : Int32) (S : MS) : Option (MS) :=
  some S
def fX6_finishesFront (p1 : Int32) (S : MS) : Option (MS) :=
  (if okI ((591 : Int32) + p1) 5130 then nm ((S.1 (((591 : Int32) + p1)).toNatClampNeg)) fun v12 => (if v12 = (-9 : Int32) then bfX6_finishesFront_49 p1  S else ob (fX6_slot v12 S) fun u13 => (if okI (u13 + (7 : Int32)) 5130 then (if (S.1 ((u13 + (7 : Int32))).toNatClampNeg) = (2 : Int32) then ob (fX6_slot v12 S) fun u14 => (if okI (u14 + (3 : Int32)) 5130 then (if (S.1 ((u14 + (3 : Int32))).toNatClampNeg) ≤ 0 then ob (fX6_slot v12 S) fun u15 => (if okI (u15 + (4 : Int32)) 5130 then (if (S.1 ((u15 + (4 : Int32))).toNatClampNeg) = 0 then (if okI ((591 : Int32) + p1) 5130 then nm (upd S.1 (((591 : Int32) + p1)).toNatClampNeg (-9 : Int32), S.2) fun S21 => ob (fX6_answers v12 S21) fun u22 => bfX6_finishesFront_150 p1  u22 else none) else (if (S.1 ((574 : Int32)).toNatClampNeg) = (S.1 ((177 : Int32)).toNatClampNeg) then (if okI ((591 : Int32) + p1) 5130 then nm (upd S.1 (((591 : Int32) + p1)).toNatClampNeg (-9 : Int32), S.2) fun S19 => ob (fX6_loses v12 (4 : Int32) S19) fun u20 => bfX6_finishesFront_150 p1  u20 else none) else ob (fX6_slot v12 S) fun u16 => (if okI (u16 + (7 : Int32)) 5130 then nm (upd S.1 ((u16 + (7 : Int32))).toNatClampNeg (3 : Int32), S.2) fun S17 => ob (fX6_joins (574 : Int32) (575 : Int32) v12 S17) fun u18 => bfX6_finishesFront_150 p1  u18 else none))) else none) else bfX6_finishesFront_49 p1  S) else none) else bfX6_finishesFront_49 p1  S) else none)) else none)
set_option maxHeartbeats 4000000 in
set_option maxRecDepth 100000 in
theorem kX6_finishesFront (l : Launch) (D : va_G) (cI cS : ClassId) (aM : Nat → Nat) (p1 : Int32) (S : MS) {q : MS} (h : fX6_finishesFront p1 S = some q) : Mc l D (tyL cI cS) false yX6_finishesFront cX6_finishesFront 3 none 5 [.ref (aM 0), .int p1] (wM cI aM S) none (wM cI aM q) := by
  refine Mc_of RX6 (by decide +kernel) rfl wc_X6_finishesFront (Nat.le_of_ble_eq_true rfl) ?_
  intro p e s m args below meth c A Q ls C hA hz hP hD hS hl RET
  have RETh : ∀ {pc : Nat} {ls : Array Slot} {H : Heap} {locs : List Loc} {S1 : MS}, decode cX6_finishesFront pc = .ok (.return_, 1) → some S1 = some q → va_P D vwCl (wM cI aM S1) H → va_D A (wM cI aM S1) → va_S A s.heap H locs → W p l e (rmL 5) s m args below meth c H locs 0 0 Q (F0 m pc ls []) := by
    intro pc ls H locs S1 hd h hP hD hS; cases h; exact RET (x_vret C hd) hP hD hS
  have B150 : ∀ (S : MS), bfX6_finishesFront_150 p1 S = some q → ∀ (H : Heap) (locs : List Loc) (ls : Array Slot), va_P D vwCl (wM cI aM S) H → va_D A (wM cI aM S) → va_S A s.heap H locs → lv_has ls 3 [] → W p l e (rmL 5) s m args below meth c H locs 0 0 Q (F0 m 150 ls []) := by
    intro S h H locs ls hP hD hS hl
    exact RETh dX6_finishesFront_150 h hP hD hS
  have B49 : ∀ (S : MS), bfX6_finishesFront_49 p1 S = some q → ∀ (H : Heap) (locs : List Loc) (ls : Array Slot), va_P D vwCl (wM cI aM S) H → va_D A (wM cI aM S) → va_S A s.heap H locs → lv_has ls 3 [] → W p l e (rmL 5) s m args below meth c H locs 0 0 Q (F0 m 49 ls []) := by
    intro S h H locs ls hP hD hS hl
    exact RETh dX6_finishesFront_49 h hP hD hS
  refine x_aload_n C dX6_finishesFront_0 rfl hl 0 rfl ?_
  refine x_get C inX6 hP 0 rfl rfl 0 (by decide) wf_X6_7 rfl dX6_finishesFront_1 ?_
  refine x_sipush (v := (591 : Int32)) C dX6_finishesFront_4 (by decide) ?_
  refine x_iload_n C dX6_finishesFront_7 rfl hl 1 rfl ?_
  refine x_iadd C dX6_finishesFront_8 ?_
  refine x_iald C h hP 1 rfl (t0 := 0) rfl dX6_finishesFront_9 (fun h => ?_)
  refine x_nmi h (fun v12 h => ?_)
  refine x_istore_n (lv' := [(2, .int v12), (0, .ref (aM 0)), (1, .int p1)]) C dX6_finishesFront_10 rfl hl (by decide) rfl (fun ls hl => ?_)
  refine x_iload_n C dX6_finishesFront_11 rfl hl 0 rfl ?_
  refine x_bipush (v := (-9 : Int32)) C dX6_finishesFront_12 (by decide) ?_
  refine x_icmp_eq (tgt := 49) C h dX6_finishesFront_14 (by decide) (fun h => ?_) (fun h => ?_)
  · exact B49 _ h _ _ _ hP hD hS (lv_sub hl [] rfl)
  · refine x_aload_n C dX6_finishesFront_17 rfl hl 1 rfl ?_
    refine x_get C inX6 hP 0 rfl rfl 0 (by decide) wf_X6_7 rfl dX6_finishesFront_18 ?_
    refine x_aload_n C dX6_finishesFront_21 rfl hl 1 rfl ?_
    refine x_iload_n C dX6_finishesFront_22 rfl hl 0 rfl ?_
    obtain ⟨u13, hu13, h⟩ := ob_some h
    refine x_callV (As := [.int _]) (n := 1) C (kX6_slot l D cI cS aM _ _ hu13) (fun hh => nomatch hh) wm_X6_74 wi_X6_slot we_X6_slot wz_X6 wc_X6_slot (by decide +kernel) rfl hP hD hS hA 0 3 rfl rfl rfl hl.1 dX6_finishesFront_23 rfl (Nat.le_of_ble_eq_true rfl) ⟨Nat.le_of_ble_eq_true rfl, Nat.le_of_ble_eq_true rfl⟩ ⟨Nat.zero_le _, Nat.zero_le _⟩ (fun H locs hP hD hS => ?_)
    refine x_bipush (v := (7 : Int32)) C dX6_finishesFront_26 (by decide) ?_
    refine x_iadd C dX6_finishesFront_28 ?_
    refine x_iald C h hP 1 rfl (t0 := 0) rfl dX6_finishesFront_29 (fun h => ?_)
    refine x_iconst (v := (2 : Int32)) C dX6_finishesFront_30 (by decide) ?_
    refine x_icmp_ne (tgt := 49) C h dX6_finishesFront_31 (by decide) (fun h => ?_) (fun h => ?_)
    · exact B49 _ h _ _ _ hP hD hS (lv_sub hl [] rfl)
    · refine x_aload_n C dX6_finishesFront_34 rfl hl 1 rfl ?_
      refine x_get C inX6 hP 0 rfl rfl 0 (by decide) wf_X6_7 rfl dX6_finishesFront_35 ?_
      refine x_aload_n C dX6_finishesFront_38 rfl hl 1 rfl ?_
      refine x_iload_n C dX6_finishesFront_39 rfl hl 0 rfl ?_
      obtain ⟨u14, hu14, h⟩ := ob_some h
      refine x_callV (As := [.int _]) (n := 1) C (kX6_slot l D cI cS aM _ _ hu14) (fun hh => nomatch hh) wm_X6_74 wi_X6_slot we_X6_slot wz_X6 wc_X6_slot (by decide +kernel) rfl hP hD hS hA 0 3 rfl rfl rfl hl.1 dX6_finishesFront_40 rfl (Nat.le_of_ble_eq_true rfl) ⟨Nat.le_of_ble_eq_true rfl, Nat.le_of_ble_eq_true rfl⟩ ⟨Nat.zero_le _, Nat.zero_le _⟩ (fun H locs hP hD hS => ?_)
      refine x_iconst (v := (3 : Int32)) C dX6_finishesFront_43 (by decide) ?_
      refine x_iadd C dX6_finishesFront_44 ?_
      refine x_iald C h hP 1 rfl (t0 := 0) rfl dX6_finishesFront_45 (fun h => ?_)
      refine x_if_le (tgt := 50) C h dX6_finishesFront_46 (by decide) (fun h => ?_) (fun h => ?_)
      · refine x_aload_n C dX6_finishesFront_50 rfl hl 1 rfl ?_
        refine x_get C inX6 hP 0 rfl rfl 0 (by decide) wf_X6_7 rfl dX6_finishesFront_51 ?_
        refine x_aload_n C dX6_finishesFront_54 rfl hl 1 rfl ?_
        refine x_iload_n C dX6_finishesFront_55 rfl hl 0 rfl ?_
        obtain ⟨u15, hu15, h⟩ := ob_some h
        refine x_callV (As := [.int _]) (n := 1) C (kX6_slot l D cI cS aM _ _ hu15) (fun hh => nomatch hh) wm_X6_74 wi_X6_slot we_X6_slot wz_X6 wc_X6_slot (by decide +kernel) rfl hP hD hS hA 0 3 rfl rfl rfl hl.1 dX6_finishesFront_56 rfl (Nat.le_of_ble_eq_true rfl) ⟨Nat.le_of_ble_eq_true rfl, Nat.le_of_ble_eq_true rfl⟩ ⟨Nat.zero_le _, Nat.zero_le _⟩ (fun H locs hP hD hS => ?_)
        refine x_iconst (v := (4 : Int32)) C dX6_finishesFront_59 (by decide) ?_
        refine x_iadd C dX6_finishesFront_60 ?_
        refine x_iald C h hP 1 rfl (t0 := 0) rfl dX6_finishesFront_61 (fun h => ?_)
        refine x_if_ne (tgt := 85) C h dX6_finishesFront_62 (by decide) (fun h => ?_) (fun h => ?_)
        · refine x_aload_n C dX6_finishesFront_85 rfl hl 1 rfl ?_
          refine x_get C inX6 hP 0 rfl rfl 0 (by decide) wf_X6_7 rfl dX6_finishesFront_86 ?_
          refine x_sipush (v := (574 : Int32)) C dX6_finishesFront_89 (by decide) ?_
          refine x_ialdK C (by decide) hP 1 rfl (t0 := 0) rfl dX6_finishesFront_92 ?_
          refine x_aload_n C dX6_finishesFront_93 rfl hl 1 rfl ?_
          refine x_get C inX6 hP 0 rfl rfl 0 (by decide) wf_X6_7 rfl dX6_finishesFront_94 ?_
          refine x_sipush (v := (177 : Int32)) C dX6_finishesFront_97 (by decide) ?_
          refine x_ialdK C (by decide) hP 1 rfl (t0 := 0) rfl dX6_finishesFront_100 ?_
          refine x_icmp_ne (tgt := 125) C h dX6_finishesFront_101 (by decide) (fun h => ?_) (fun h => ?_)
          · refine x_aload_n C dX6_finishesFront_125 rfl hl 1 rfl ?_
            refine x_get C inX6 hP 0 rfl rfl 0 (by decide) wf_X6_7 rfl dX6_finishesFront_126 ?_
            refine x_aload_n C dX6_finishesFront_129 rfl hl 1 rfl ?_
            refine x_iload_n C dX6_finishesFront_130 rfl hl 0 rfl ?_
            obtain ⟨u16, hu16, h⟩ := ob_some h
            refine x_callV (As := [.int _]) (n := 1) C (kX6_slot l D cI cS aM _ _ hu16) (fun hh => nomatch hh) wm_X6_74 wi_X6_slot we_X6_slot wz_X6 wc_X6_slot (by decide +kernel) rfl hP hD hS hA 0 3 rfl rfl rfl hl.1 dX6_finishesFront_131 rfl (Nat.le_of_ble_eq_true rfl) ⟨Nat.le_of_ble_eq_true rfl, Nat.le_of_ble_eq_true rfl⟩ ⟨Nat.zero_le _, Nat.zero_le _⟩ (fun H locs hP hD hS => ?_)
            refine x_bipush (v := (7 : Int32)) C dX6_finishesFront_134 (by decide) ?_
            refine x_iadd C dX6_finishesFront_136 ?_
            refine x_iconst (v := (3 : Int32)) C dX6_finishesFront_137 (by decide) ?_
            refine x_iastM (wM cI aM) C h hP hD hS 1 rfl (t0 := 0) rfl rfl dX6_finishesFront_138 (fun S17 h H locs hP hD hS => ?_)
            refine x_aload_n C dX6_finishesFront_139 rfl hl 1 rfl ?_
            refine x_sipush (v := (574 : Int32)) C dX6_finishesFront_140 (by decide) ?_
            refine x_sipush (v := (575 : Int32)) C dX6_finishesFront_143 (by decide) ?_
            refine x_iload_n C dX6_finishesFront_146 rfl hl 0 rfl ?_
            obtain ⟨u18, hu18, h⟩ := ob_some h
            refine x_callV (As := [.int _, .int _, .int _]) (n := 3) C (kX6_joins l D cI cS aM _ _ _ _ hu18) (fun hh => nomatch hh) wm_X6_106 wi_X6_joins we_X6_joins wz_X6 wc_X6_joins (by decide +kernel) rfl hP hD hS hA 0 3 rfl rfl rfl hl.1 dX6_finishesFront_147 rfl (Nat.le_of_ble_eq_true rfl) ⟨Nat.le_of_ble_eq_true rfl, Nat.le_of_ble_eq_true rfl⟩ ⟨Nat.zero_le _, Nat.zero_le _⟩ (fun H locs hP hD hS => ?_)
            exact B150 _ h _ _ _ hP hD hS (lv_sub hl [] rfl)
          · refine x_aload_n C dX6_finishesFront_104 rfl hl 1 rfl ?_
            refine x_get C inX6 hP 0 rfl rfl 0 (by decide) wf_X6_7 rfl dX6_finishesFront_105 ?_
            refine x_sipush (v := (591 : Int32)) C dX6_finishesFront_108 (by decide) ?_
            refine x_iload_n C dX6_finishesFront_111 rfl hl 2 rfl ?_
            refine x_iadd C dX6_finishesFront_112 ?_
            refine x_bipush (v := (-9 : Int32)) C dX6_finishesFront_113 (by decide) ?_
            refine x_iastM (wM cI aM) C h hP hD hS 1 rfl (t0 := 0) rfl rfl dX6_finishesFront_115 (fun S19 h H locs hP hD hS => ?_)
            refine x_aload_n C dX6_finishesFront_116 rfl hl 1 rfl ?_
            refine x_iload_n C dX6_finishesFront_117 rfl hl 0 rfl ?_
            refine x_iconst (v := (4 : Int32)) C dX6_finishesFront_118 (by decide) ?_
            obtain ⟨u20, hu20, h⟩ := ob_some h
            refine x_callV (As := [.int _, .int _]) (n := 2) C (kX6_loses l D cI cS aM _ _ _ hu20) (fun hh => nomatch hh) wm_X6_100 wi_X6_loses we_X6_loses wz_X6 wc_X6_loses (by decide +kernel) rfl hP hD hS hA 0 3 rfl rfl rfl hl.1 dX6_finishesFront_119 rfl (Nat.le_of_ble_eq_true rfl) ⟨Nat.le_of_ble_eq_true rfl, Nat.le_of_ble_eq_true rfl⟩ ⟨Nat.zero_le _, Nat.zero_le _⟩ (fun H locs hP hD hS => ?_)
            refine x_goto (tgt := 150) C dX6_finishesFront_122 (by decide) ?_
            exact B150 _ h _ _ _ hP hD hS (lv_sub hl [] rfl)
        · refine x_aload_n C dX6_finishesFront_65 rfl hl 1 rfl ?_
          refine x_get C inX6 hP 0 rfl rfl 0 (by decide) wf_X6_7 rfl dX6_finishesFront_66 ?_
          refine x_sipush (v := (591 : Int32)) C dX6_finishesFront_69 (by decide) ?_
          refine x_iload_n C dX6_finishesFront_72 rfl hl 2 rfl ?_
          refine x_iadd C dX6_finishesFront_73 ?_
          refine x_bipush (v := (-9 : Int32)) C dX6_finishesFront_74 (by decide) ?_
          refine x_iastM (wM cI aM) C h hP hD hS 1 rfl (t0 := 0) rfl rfl dX6_finishesFront_76 (fun S21 h H locs hP hD hS => ?_)
          refine x_aload_n C dX6_finishesFront_77 rfl hl 1 rfl ?_
          refine x_iload_n C dX6_finishesFront_78 rfl hl 0 rfl ?_
          obtain ⟨u22, hu22, h⟩ := ob_some h
          refine x_callV (As := [.int _]) (n := 1) C (kX6_answers l D cI cS aM _ _ hu22) (fun hh => nomatch hh) wm_X6_121 wi_X6_answers we_X6_answers wz_X6 wc_X6_answers (by decide +kernel) rfl hP hD hS hA 0 3 rfl rfl rfl hl.1 dX6_finishesFront_79 rfl (Nat.le_of_ble_eq_true rfl) ⟨Nat.le_of_ble_eq_true rfl, Nat.le_of_ble_eq_true rfl⟩ ⟨Nat.zero_le _, Nat.zero_le _⟩ (fun H locs hP hD hS => ?_)
          refine x_goto (tgt := 150) C dX6_finishesFront_82 (by decide) ?_
          exact B150 _ h _ _ _ hP hD hS (lv_sub hl [] rfl)
      · exact B49 _ h _ _ _ hP hD hS (lv_sub hl [] rfl)
theorem dX6_gathers_0 : decode cX6_gathers 0 = .ok (.iconst 0, 1) := by decide +kernel
theorem dX6_gathers_1 : decode cX6_gathers 1 = .ok (.istore_n 2, 1) := by decide +kernel
theorem dX6_gathers_2 : decode cX6_gathers 2 = .ok (.iconst 0, 1) := by decide +kernel
theorem dX6_gathers_3 : decode cX6_gathers 3 = .ok (.istore_n 3, 1) := by decide +kernel
theorem dX6_gathers_4 : decode cX6_gathers 4 = .ok (.iload_n 3, 1) := by decide +kernel
theorem dX6_gathers_5 : decode cX6_gathers 5 = .ok (.aload_n 0, 1) := by decide +kernel
theorem dX6_gathers_6 : decode cX6_gathers 6 = .ok (.getfield 7, 3) := by decide +kernel
theorem dX6_gathers_9 : decode cX6_gathers 9 = .ok (.sipush 188, 3) := by decide +kernel
theorem dX6_gathers_12 : decode cX6_gathers 12 = .ok (.iaload, 1) := by decide +kernel
theorem dX6_gathers_13 : decode cX6_gathers 13 = .ok (.if_icmp .ge 65, 3) := by decide +kernel
theorem dX6_gathers_16 : decode cX6_gathers 16 = .ok (.aload_n 0, 1) := by decide +kernel
theorem dX6_gathers_17 : decode cX6_gathers 17 = .ok (.getfield 7, 3) := by decide +kernel
theorem dX6_gathers_20 : decode cX6_gathers 20 = .ok (.aload_n 0, 1) := by decide +kernel
theorem dX6_gathers_21 : decode cX6_gathers 21 = .ok (.iload_n 3, 1) := by decide +kernel
theorem dX6_gathers_22 : decode cX6_gathers 22 = .ok (.invokevirtual 48, 3) := by decide +kernel
theorem dX6_gathers_25 : decode cX6_gathers 25 = .ok (.iconst 4, 1) := by decide +kernel
theorem dX6_gathers_26 : decode cX6_gathers 26 = .ok (.iadd, 1) := by decide +kernel
theorem dX6_gathers_27 : decode cX6_gathers 27 = .ok (.iaload, 1) := by decide +kernel
theorem dX6_gathers_28 : decode cX6_gathers 28 = .ok (.iload_n 1, 1) := by decide +kernel
theorem dX6_gathers_29 : decode cX6_gathers 29 = .ok (.if_icmp .ne 43, 3) := by decide +kernel
theorem dX6_gathers_32 : decode cX6_gathers 32 = .ok (.aload_n 0, 1) := by decide +kernel
theorem dX6_gathers_33 : decode cX6_gathers 33 = .ok (.getfield 7, 3) := by decide +kernel
theorem dX6_gathers_36 : decode cX6_gathers 36 = .ok (.aload_n 0, 1) := by decide +kernel
theorem dX6_gathers_37 : decode cX6_gathers 37 = .ok (.iload_n 3, 1) := by decide +kernel
theorem dX6_gathers_38 : decode cX6_gathers 38 = .ok (.invokevirtual 48, 3) := by decide +kernel
theorem dX6_gathers_41 : decode cX6_gathers 41 = .ok (.iconst 5, 1) := by decide +kernel
theorem dX6_gathers_42 : decode cX6_gathers 42 = .ok (.iadd, 1) := by decide +kernel
theorem dX6_gathers_43 : decode cX6_gathers 43 = .ok (.iaload, 1) := by decide +kernel
theorem dX6_gathers_44 : decode cX6_gathers 44 = .ok (.aload_n 0, 1) := by decide +kernel
theorem dX6_gathers_45 : decode cX6_gathers 45 = .ok (.getfield 67, 3) := by decide +kernel
theorem dX6_gathers_48 : decode cX6_gathers 48 = .ok (.if_icmp .ne 24, 3) := by decide +kernel
theorem dX6_gathers_51 : decode cX6_gathers 51 = .ok (.aload_n 0, 1) := by decide +kernel
theorem dX6_gathers_52 : decode cX6_gathers 52 = .ok (.getfield 22, 3) := by decide +kernel
theorem dX6_gathers_55 : decode cX6_gathers 55 = .ok (.iload_n 2, 1) := by decide +kernel
theorem dX6_gathers_56 : decode cX6_gathers 56 = .ok (.aload_n 0, 1) := by decide +kernel
theorem dX6_gathers_57 : decode cX6_gathers 57 = .ok (.getfield 7, 3) := by decide +kernel
theorem dX6_gathers_60 : decode cX6_gathers 60 = .ok (.aload_n 0, 1) := by decide +kernel
theorem dX6_gathers_61 : decode cX6_gathers 61 = .ok (.iload_n 3, 1) := by decide +kernel
theorem dX6_gathers_62 : decode cX6_gathers 62 = .ok (.invokevirtual 48, 3) := by decide +kernel
theorem dX6_gathers_65 : decode cX6_gathers 65 = .ok (.iconst 0, 1) := by decide +kernel
theorem dX6_gathers_66 : decode cX6_gathers 66 = .ok (.iadd, 1) := by decide +kernel
theorem dX6_gathers_67 : decode cX6_gathers 67 = .ok (.iaload, 1) := by decide +kernel
theorem dX6_gathers_68 : decode cX6_gathers 68 = .ok (.iastore, 1) := by decide +kernel
theorem dX6_gathers_69 : decode cX6_gathers 69 = .ok (.iinc 2 1, 3) := by decide +kernel
theorem dX6_gathers_72 : decode cX6_gathers 72 = .ok (.iinc 3 1, 3) := by decide +kernel
theorem dX6_gathers_75 : decode cX6_gathers 75 = .ok (.goto (-71), 3) := by decide +kernel
theorem dX6_gathers_78 : decode cX6_gathers 78 = .ok (.iload_n 2, 1) := by decide +kernel
theorem dX6_gathers_79 : decode cX6_gathers 79 = .ok (.ireturn, 1) := by decide +kernel
def bfX6_gathers_72 (p1 : Int32) (K4 : Int32 × Int32 × (MS) → Option (Int32 × (MS))) (x2 : Int32) (x3 : Int32) (S : MS) : Option (Int32 × (MS)) :=
  K4 (x2, (x3 + (1 : Int32)), S)
def bfX6_gathers_4 (p1 : Int32) (K4 : Int32 × Int32 × (MS) → Option (Int32 × (MS))) (x : Int32 × Int32 × (MS)) : Option (Int32 × (MS)) :=
  match x with
  | (x2, x3, S) => (if (S.1 ((188 : Int32)).toNatClampNeg) ≤ x3 then some (x2, S) else ob (fX6_row x3 S) fun u5 => (if okI (u5 + (4 : Int32)) 5130 then (if (S.1 ((u5 + (4 : Int32))).toNatClampNeg) = p1 then ob (fX6_row x3 S) fun u6 => (if okI (u6 + (5 : Int32)) 5130 then (if (S.1 ((u6 + (5 : Int32))).toNatClampNeg) = (S.2.2 5) then ob (fX6_row x3 S) fun u7 => (if okI (u7 + (0 : Int32)) 5130 then (if okI x2 16 then nm (S.1, upd S.2.1 (x2).toNatClampNeg (S.1 ((u7 + (0 : Int32))).toNatClampNeg), S.2.2) fun S8 => bfX6_gathers_72 p1 K4 ((x2 + (1 : Int32))) x3 S8 else none) else none) else bfX6_gathers_72 p1 K4 x2 x3 S) else none) else bfX6_gathers_72 p1 K4 x2 x3 S) else none))
def fX6_gathers (p1 : Int32) (S : MS) : Option (Int32 × (MS)) :=
  iter (bfX6_gathers_4 p1) FU ((0 : Int32), (0 : Int32), S)
set_option maxHeartbeats 4000000 in
set_option maxRecDepth 100000 in
theorem kX6_gathers (l : Launch) (D : va_G) (cI cS : ClassId) (aM : Nat → Nat) (p1 : Int32) (S : MS) {q : Int32 × (MS)} (h : fX6_gathers p1 S = some q) : Mc l D (tyL cI cS) false yX6_gathers cX6_gathers 4 (some .int) 2 [.ref (aM 0), .int p1] (wM cI aM S) (some (.int q.1)) (wM cI aM q.2) := by
  refine Mc_of RX6 (by decide +kernel) rfl wc_X6_gathers (Nat.le_of_ble_eq_true rfl) ?_
  intro p e s m args below meth c A Q ls C hA hz hP hD hS hl RET
  have RETh : ∀ {pc : Nat} {ls : Array Slot} {H : Heap} {locs : List Loc} {x : Int32} {S1 : MS}, decode cX6_gathers pc = .ok (.ireturn, 1) → some (x, S1) = some q → va_P D vwCl (wM cI aM S1) H → va_D A (wM cI aM S1) → va_S A s.heap H locs → W p l e (rmL 2) s m args below meth c H locs 0 0 Q (F0 m pc ls [.int x]) := by
    intro pc ls H locs x S1 hd h hP hD hS; cases h; exact RET (x_iret C hd) hP hD hS
  have B72 : ∀ (K4 : Int32 × Int32 × (MS) → Option (Int32 × (MS))) (ih4 : ∀ x, K4 x = some q → (match x with | (x2, x3, S) => ∀ (H : Heap) (locs : List Loc) (ls : Array Slot), va_P D vwCl (wM cI aM S) H → va_D A (wM cI aM S) → va_S A s.heap H locs → lv_has ls 4 [(0, .ref (aM 0)), (1, .int p1), (2, .int x2), (3, .int x3)] → W p l e (rmL 2) s m args below meth c H locs 0 0 Q (F0 m 4 ls []))) (x2 : Int32) (x3 : Int32) (S : MS), bfX6_gathers_72 p1 K4 x2 x3 S = some q → ∀ (H : Heap) (locs : List Loc) (ls : Array Slot), va_P D vwCl (wM cI aM S) H → va_D A (wM cI aM S) → va_S A s.heap H locs → lv_has ls 4 [(0, .ref (aM 0)), (1, .int p1), (2, .int x2), (3, .int x3)] → W p l e (rmL 2) s m args below meth c H locs 0 0 Q (F0 m 72 ls []) := by
    intro K4 ih4 x2 x3 S h H locs ls hP hD hS hl
    refine x_iinc (v := (x3 + (1 : Int32))) (lv' := [(3, .int (x3 + (1 : Int32))), (0, .ref (aM 0)), (1, .int p1), (2, .int x2)]) C dX6_gathers_72 hl (k := 3) rfl rfl (by decide) rfl (fun ls hl => ?_)
    refine x_goto (tgt := 4) C dX6_gathers_75 (by decide) ?_
    exact ih4 _ h _ _ _ hP hD hS (lv_sub hl [1, 2, 3, 0] rfl)
  have B4 : ∀ (n : Nat) (x : Int32 × Int32 × (MS)), iter (bfX6_gathers_4 p1) n x = some q → (match x with | (x2, x3, S) => ∀ (H : Heap) (locs : List Loc) (ls : Array Slot), va_P D vwCl (wM cI aM S) H → va_D A (wM cI aM S) → va_S A s.heap H locs → lv_has ls 4 [(0, .ref (aM 0)), (1, .int p1), (2, .int x2), (3, .int x3)] → W p l e (rmL 2) s m args below meth c H locs 0 0 Q (F0 m 4 ls [])) := by
    refine iter_ind (fun x : Int32 × Int32 × (MS) => (match x with | (x2, x3, S) => ∀ (H : Heap) (locs : List Loc) (ls : Array Slot), va_P D vwCl (wM cI aM S) H → va_D A (wM cI aM S) → va_S A s.heap H locs → lv_has ls 4 [(0, .ref (aM 0)), (1, .int p1), (2, .int x2), (3, .int x3)] → W p l e (rmL 2) s m args below meth c H locs 0 0 Q (F0 m 4 ls []))) ?_
    intro K4 ih4 x h
    obtain ⟨x2, x3, S⟩ := x
    intro H locs ls hP hD hS hl
    refine x_iload_n C dX6_gathers_4 rfl hl 3 rfl ?_
    refine x_aload_n C dX6_gathers_5 rfl hl 0 rfl ?_
    refine x_get C inX6 hP 0 rfl rfl 0 (by decide) wf_X6_7 rfl dX6_gathers_6 ?_
    refine x_sipush (v := (188 : Int32)) C dX6_gathers_9 (by decide) ?_
    refine x_ialdK C (by decide) hP 1 rfl (t0 := 0) rfl dX6_gathers_12 ?_
    refine x_icmp_ge (tgt := 78) C h dX6_gathers_13 (by decide) (fun h => ?_) (fun h => ?_)
    · refine x_iload_n C dX6_gathers_78 rfl hl 2 rfl ?_
      exact RETh dX6_gathers_79 h hP hD hS
    · refine x_aload_n C dX6_gathers_16 rfl hl 0 rfl ?_
      refine x_get C inX6 hP 0 rfl rfl 0 (by decide) wf_X6_7 rfl dX6_gathers_17 ?_
      refine x_aload_n C dX6_gathers_20 rfl hl 0 rfl ?_
      refine x_iload_n C dX6_gathers_21 rfl hl 3 rfl ?_
      obtain ⟨u5, hu5, h⟩ := ob_some h
      refine x_callV (As := [.int _]) (n := 1) C (kX6_row l D cI cS aM _ _ hu5) (fun hh => nomatch hh) wm_X6_48 wi_X6_row we_X6_row wz_X6 wc_X6_row (by decide +kernel) rfl hP hD hS hA 0 3 rfl rfl rfl hl.1 dX6_gathers_22 rfl (Nat.le_of_ble_eq_true rfl) ⟨Nat.le_of_ble_eq_true rfl, Nat.le_of_ble_eq_true rfl⟩ ⟨Nat.zero_le _, Nat.zero_le _⟩ (fun H locs hP hD hS => ?_)
      refine x_iconst (v := (4 : Int32)) C dX6_gathers_25 (by decide) ?_
      refine x_iadd C dX6_gathers_26 ?_
      refine x_iald C h hP 1 rfl (t0 := 0) rfl dX6_gathers_27 (fun h => ?_)
      refine x_iload_n C dX6_gathers_28 rfl hl 1 rfl ?_
      refine x_icmp_ne (tgt := 72) C h dX6_gathers_29 (by decide) (fun h => ?_) (fun h => ?_)
      · exact B72 K4 ih4 _ _ _ h _ _ _ hP hD hS hl
      · refine x_aload_n C dX6_gathers_32 rfl hl 0 rfl ?_
        refine x_get C inX6 hP 0 rfl rfl 0 (by decide) wf_X6_7 rfl dX6_gathers_33 ?_
        refine x_aload_n C dX6_gathers_36 rfl hl 0 rfl ?_
        refine x_iload_n C dX6_gathers_37 rfl hl 3 rfl ?_
        obtain ⟨u6, hu6, h⟩ := ob_some h
        refine x_callV (As := [.int _]) (n := 1) C (kX6_row l D cI cS aM _ _ hu6) (fun hh => nomatch hh) wm_X6_48 wi_X6_row we_X6_row wz_X6 wc_X6_row (by decide +kernel) rfl hP hD hS hA 0 3 rfl rfl rfl hl.1 dX6_gathers_38 rfl (Nat.le_of_ble_eq_true rfl) ⟨Nat.le_of_ble_eq_true rfl, Nat.le_of_ble_eq_true rfl⟩ ⟨Nat.zero_le _, Nat.zero_le _⟩ (fun H locs hP hD hS => ?_)
        refine x_iconst (v := (5 : Int32)) C dX6_gathers_41 (by decide) ?_
        refine x_iadd C dX6_gathers_42 ?_
        refine x_iald C h hP 1 rfl (t0 := 0) rfl dX6_gathers_43 (fun h => ?_)
        refine x_aload_n C dX6_gathers_44 rfl hl 0 rfl ?_
        refine x_get C inX6 hP 0 rfl rfl 5 (by decide) wf_X6_67 rfl dX6_gathers_45 ?_
        refine x_icmp_ne (tgt := 72) C h dX6_gathers_48 (by decide) (fun h => ?_) (fun h => ?_)
        · exact B72 K4 ih4 _ _ _ h _ _ _ hP hD hS hl
        · refine x_aload_n C dX6_gathers_51 rfl hl 0 rfl ?_
          refine x_get C inX6 hP 0 rfl rfl 9 (by decide) wf_X6_22 rfl dX6_gathers_52 ?_
          refine x_iload_n C dX6_gathers_55 rfl hl 2 rfl ?_
          refine x_aload_n C dX6_gathers_56 rfl hl 0 rfl ?_
          refine x_get C inX6 hP 0 rfl rfl 0 (by decide) wf_X6_7 rfl dX6_gathers_57 ?_
          refine x_aload_n C dX6_gathers_60 rfl hl 0 rfl ?_
          refine x_iload_n C dX6_gathers_61 rfl hl 3 rfl ?_
          obtain ⟨u7, hu7, h⟩ := ob_some h
          refine x_callV (As := [.int _]) (n := 1) C (kX6_row l D cI cS aM _ _ hu7) (fun hh => nomatch hh) wm_X6_48 wi_X6_row we_X6_row wz_X6 wc_X6_row (by decide +kernel) rfl hP hD hS hA 0 3 rfl rfl rfl hl.1 dX6_gathers_62 rfl (Nat.le_of_ble_eq_true rfl) ⟨Nat.le_of_ble_eq_true rfl, Nat.le_of_ble_eq_true rfl⟩ ⟨Nat.zero_le _, Nat.zero_le _⟩ (fun H locs hP hD hS => ?_)
          refine x_iconst (v := (0 : Int32)) C dX6_gathers_65 (by decide) ?_
          refine x_iadd C dX6_gathers_66 ?_
          refine x_iald C h hP 1 rfl (t0 := 0) rfl dX6_gathers_67 (fun h => ?_)
          refine x_iastM (wM cI aM) C h hP hD hS 5 rfl (t0 := 0) rfl rfl dX6_gathers_68 (fun S8 h H locs hP hD hS => ?_)
          refine x_iinc (v := (x2 + (1 : Int32))) (lv' := [(2, .int (x2 + (1 : Int32))), (0, .ref (aM 0)), (1, .int p1), (3, .int x3)]) C dX6_gathers_69 hl (k := 2) rfl rfl (by decide) rfl (fun ls hl => ?_)
          exact B72 K4 ih4 _ _ _ h _ _ _ hP hD hS (lv_sub hl [1, 2, 0, 3] rfl)
  refine x_iconst (v := (0 : Int32)) C dX6_gathers_0 (by decide) ?_
  refine x_istore_n (lv' := [(2, .int (0 : Int32)), (0, .ref (aM 0)), (1, .int p1)]) C dX6_gathers_1 rfl hl (by decide) rfl (fun ls hl => ?_)
  refine x_iconst (v := (0 : Int32)) C dX6_gathers_2 (by decide) ?_
  refine x_istore_n (lv' := [(3, .int (0 : Int32)), (2, .int (0 : Int32)), (0, .ref (aM 0)), (1, .int p1)]) C dX6_gathers_3 rfl hl (by decide) rfl (fun ls hl => ?_)
  exact B4 FU _ h _ _ _ hP hD hS (lv_sub hl [2, 3, 1, 0] rfl)
theorem dX6_isDue_0 : decode cX6_isDue 0 = .ok (.aload_n 0, 1) := by decide +kernel
theorem dX6_isDue_1 : decode cX6_isDue 1 = .ok (.iload_n 1, 1) := by decide +kernel
theorem dX6_isDue_2 : decode cX6_isDue 2 = .ok (.iconst 0, 1) := by decide +kernel
theorem dX6_isDue_3 : decode cX6_isDue 3 = .ok (.invokevirtual 44, 3) := by decide +kernel
theorem dX6_isDue_6 : decode cX6_isDue 6 = .ok (.istore_n 2, 1) := by decide +kernel
theorem dX6_isDue_7 : decode cX6_isDue 7 = .ok (.iload_n 2, 1) := by decide +kernel
theorem dX6_isDue_8 : decode cX6_isDue 8 = .ok (.ifCond .le 36, 3) := by decide +kernel
theorem dX6_isDue_11 : decode cX6_isDue 11 = .ok (.aload_n 0, 1) := by decide +kernel
theorem dX6_isDue_12 : decode cX6_isDue 12 = .ok (.getfield 67, 3) := by decide +kernel
theorem dX6_isDue_15 : decode cX6_isDue 15 = .ok (.aload_n 0, 1) := by decide +kernel
theorem dX6_isDue_16 : decode cX6_isDue 16 = .ok (.iload_n 1, 1) := by decide +kernel
theorem dX6_isDue_17 : decode cX6_isDue 17 = .ok (.iconst 1, 1) := by decide +kernel
theorem dX6_isDue_18 : decode cX6_isDue 18 = .ok (.invokevirtual 44, 3) := by decide +kernel
theorem dX6_isDue_21 : decode cX6_isDue 21 = .ok (.if_icmp .lt 23, 3) := by decide +kernel
theorem dX6_isDue_24 : decode cX6_isDue 24 = .ok (.aload_n 0, 1) := by decide +kernel
theorem dX6_isDue_25 : decode cX6_isDue 25 = .ok (.getfield 67, 3) := by decide +kernel
theorem dX6_isDue_28 : decode cX6_isDue 28 = .ok (.aload_n 0, 1) := by decide +kernel
theorem dX6_isDue_29 : decode cX6_isDue 29 = .ok (.iload_n 1, 1) := by decide +kernel
theorem dX6_isDue_30 : decode cX6_isDue 30 = .ok (.iconst 1, 1) := by decide +kernel
theorem dX6_isDue_31 : decode cX6_isDue 31 = .ok (.invokevirtual 44, 3) := by decide +kernel
theorem dX6_isDue_34 : decode cX6_isDue 34 = .ok (.isub, 1) := by decide +kernel
theorem dX6_isDue_35 : decode cX6_isDue 35 = .ok (.iload_n 2, 1) := by decide +kernel
theorem dX6_isDue_36 : decode cX6_isDue 36 = .ok (.irem, 1) := by decide +kernel
theorem dX6_isDue_37 : decode cX6_isDue 37 = .ok (.ifCond .ne 7, 3) := by decide +kernel
theorem dX6_isDue_40 : decode cX6_isDue 40 = .ok (.iconst 1, 1) := by decide +kernel
theorem dX6_isDue_41 : decode cX6_isDue 41 = .ok (.goto 4, 3) := by decide +kernel
theorem dX6_isDue_44 : decode cX6_isDue 44 = .ok (.iconst 0, 1) := by decide +kernel
theorem dX6_isDue_45 : decode cX6_isDue 45 = .ok (.ireturn, 1) := by decide +kernel
def bfX6_isDue_45 (p1 : Int32) (S : MS) (s0 : Int32) : Option (Int32) :=
  (if s0 = 0 ∨ s0 = 1 then some s0 else none)
def bfX6_isDue_44 (p1 : Int32) (S : MS) : Option (Int32) :=
  bfX6_isDue_45 p1 S  ((0 : Int32))
def fX6_isDue (p1 : Int32) (S : MS) : Option (Int32) :=
  ob (fX6_of p1 (0 : Int32) S) fun u4 => (if u4 ≤ 0 then bfX6_isDue_44 p1 S else ob (fX6_of p1 (1 : Int32) S) fun u5 => (if (S.2.2 5) < u5 then bfX6_isDue_44 p1 S else ob (fX6_of p1 (1 : Int32) S) fun u6 => (if u4 = 0 then none else (if (((S.2.2 5) - u6) - ((S.2.2 5) - u6) / u4 * u4) = 0 then bfX6_isDue_45 p1 S  ((1 : Int32)) else bfX6_isDue_44 p1 S))))
set_option maxHeartbeats 4000000 in
set_option maxRecDepth 100000 in
theorem kX6_isDue (l : Launch) (D : va_G) (cI cS : ClassId) (aM : Nat → Nat) (p1 : Int32) (S : MS) {q : Int32} (h : fX6_isDue p1 S = some q) : Mc l D (tyL cI cS) false yX6_isDue cX6_isDue 3 (some .boolean) 2 [.ref (aM 0), .int p1] (wM cI aM S) (some (.int q)) (wM cI aM S) := by
  refine Mc_of RX6 (by decide +kernel) rfl wc_X6_isDue (Nat.le_of_ble_eq_true rfl) ?_
  intro p e s m args below meth c A Q ls C hA hz hP hD hS hl RET
  have RETh : ∀ {pc : Nat} {ls : Array Slot} {H : Heap} {locs : List Loc} {x : Int32} , (x = 0 ∨ x = 1) → decode cX6_isDue pc = .ok (.ireturn, 1) → some x = some q → va_P D vwCl (wM cI aM S) H → va_D A (wM cI aM S) → va_S A s.heap H locs → W p l e (rmL 2) s m args below meth c H locs 0 0 Q (F0 m pc ls [.int x]) := by
    intro pc ls H locs x hx hd h hP hD hS; cases h; exact RET (x_zret C hx hd) hP hD hS
  have B45 : ∀ (s0 : Int32), bfX6_isDue_45 p1 S s0 = some q → ∀ (H : Heap) (locs : List Loc) (ls : Array Slot), va_P D vwCl (wM cI aM S) H → va_D A (wM cI aM S) → va_S A s.heap H locs → lv_has ls 3 [] → W p l e (rmL 2) s m args below meth c H locs 0 0 Q (F0 m 45 ls [.int s0]) := by
    intro s0 h H locs ls hP hD hS hl
    rcases x_ifn h with ⟨hc, h⟩
    exact RETh hc dX6_isDue_45 h hP hD hS
  have B44 : bfX6_isDue_44 p1 S = some q → ∀ (H : Heap) (locs : List Loc) (ls : Array Slot), va_P D vwCl (wM cI aM S) H → va_D A (wM cI aM S) → va_S A s.heap H locs → lv_has ls 3 [] → W p l e (rmL 2) s m args below meth c H locs 0 0 Q (F0 m 44 ls []) := by
    intro  h H locs ls hP hD hS hl
    refine x_iconst (v := (0 : Int32)) C dX6_isDue_44 (by decide) ?_
    exact B45 _ h _ _ _ hP hD hS hl
  refine x_aload_n C dX6_isDue_0 rfl hl 0 rfl ?_
  refine x_iload_n C dX6_isDue_1 rfl hl 1 rfl ?_
  refine x_iconst (v := (0 : Int32)) C dX6_isDue_2 (by decide) ?_
  obtain ⟨u4, hu4, h⟩ := ob_some h
  refine x_callV (As := [.int _, .int _]) (n := 2) C (kX6_of l D cI cS aM _ _ _ hu4) (fun hh => nomatch hh) wm_X6_44 wi_X6_of we_X6_of wz_X6 wc_X6_of (by decide +kernel) rfl hP hD hS hA 0 3 rfl rfl rfl hl.1 dX6_isDue_3 rfl (Nat.le_of_ble_eq_true rfl) ⟨Nat.le_of_ble_eq_true rfl, Nat.le_of_ble_eq_true rfl⟩ ⟨Nat.zero_le _, Nat.zero_le _⟩ (fun H locs hP hD hS => ?_)
  refine x_istore_n (lv' := [(2, .int u4), (0, .ref (aM 0)), (1, .int p1)]) C dX6_isDue_6 rfl hl (by decide) rfl (fun ls hl => ?_)
  refine x_iload_n C dX6_isDue_7 rfl hl 0 rfl ?_
  refine x_if_le (tgt := 44) C h dX6_isDue_8 (by decide) (fun h => ?_) (fun h => ?_)
  · exact B44  h _ _ _ hP hD hS (lv_sub hl [] rfl)
  · refine x_aload_n C dX6_isDue_11 rfl hl 1 rfl ?_
    refine x_get C inX6 hP 0 rfl rfl 5 (by decide) wf_X6_67 rfl dX6_isDue_12 ?_
    refine x_aload_n C dX6_isDue_15 rfl hl 1 rfl ?_
    refine x_iload_n C dX6_isDue_16 rfl hl 2 rfl ?_
    refine x_iconst (v := (1 : Int32)) C dX6_isDue_17 (by decide) ?_
    obtain ⟨u5, hu5, h⟩ := ob_some h
    refine x_callV (As := [.int _, .int _]) (n := 2) C (kX6_of l D cI cS aM _ _ _ hu5) (fun hh => nomatch hh) wm_X6_44 wi_X6_of we_X6_of wz_X6 wc_X6_of (by decide +kernel) rfl hP hD hS hA 0 3 rfl rfl rfl hl.1 dX6_isDue_18 rfl (Nat.le_of_ble_eq_true rfl) ⟨Nat.le_of_ble_eq_true rfl, Nat.le_of_ble_eq_true rfl⟩ ⟨Nat.zero_le _, Nat.zero_le _⟩ (fun H locs hP hD hS => ?_)
    refine x_icmp_lt (tgt := 44) C h dX6_isDue_21 (by decide) (fun h => ?_) (fun h => ?_)
    · exact B44  h _ _ _ hP hD hS (lv_sub hl [] rfl)
    · refine x_aload_n C dX6_isDue_24 rfl hl 1 rfl ?_
      refine x_get C inX6 hP 0 rfl rfl 5 (by decide) wf_X6_67 rfl dX6_isDue_25 ?_
      refine x_aload_n C dX6_isDue_28 rfl hl 1 rfl ?_
      refine x_iload_n C dX6_isDue_29 rfl hl 2 rfl ?_
      refine x_iconst (v := (1 : Int32)) C dX6_isDue_30 (by decide) ?_
      obtain ⟨u6, hu6, h⟩ := ob_some h
      refine x_callV (As := [.int _, .int _]) (n := 2) C (kX6_of l D cI cS aM _ _ _ hu6) (fun hh => nomatch hh) wm_X6_44 wi_X6_of we_X6_of wz_X6 wc_X6_of (by decide +kernel) rfl hP hD hS hA 0 3 rfl rfl rfl hl.1 dX6_isDue_31 rfl (Nat.le_of_ble_eq_true rfl) ⟨Nat.le_of_ble_eq_true rfl, Nat.le_of_ble_eq_true rfl⟩ ⟨Nat.zero_le _, Nat.zero_le _⟩ (fun H locs hP hD hS => ?_)
      refine x_isub C dX6_isDue_34 ?_
      refine x_iload_n C dX6_isDue_35 rfl hl 0 rfl ?_
      refine x_irem C h dX6_isDue_36 (fun h => ?_)
      refine x_if_ne (tgt := 44) C h dX6_isDue_37 (by decide) (fun h => ?_) (fun h => ?_)
      · exact B44  h _ _ _ hP hD hS (lv_sub hl [] rfl)
      · refine x_iconst (v := (1 : Int32)) C dX6_isDue_40 (by decide) ?_
        refine x_goto (tgt := 45) C dX6_isDue_41 (by decide) ?_
        exact B45 _ h _ _ _ hP hD hS (lv_sub hl [] rfl)
theorem dX6_left_0 : decode cX6_left 0 = .ok (.aload_n 0, 1) := by decide +kernel
theorem dX6_left_1 : decode cX6_left 1 = .ok (.getfield 7, 3) := by decide +kernel
theorem dX6_left_4 : decode cX6_left 4 = .ok (.aload_n 0, 1) := by decide +kernel
theorem dX6_left_5 : decode cX6_left 5 = .ok (.iload_n 1, 1) := by decide +kernel
theorem dX6_left_6 : decode cX6_left 6 = .ok (.invokevirtual 74, 3) := by decide +kernel
theorem dX6_left_9 : decode cX6_left 9 = .ok (.iconst 0, 1) := by decide +kernel
theorem dX6_left_10 : decode cX6_left 10 = .ok (.iadd, 1) := by decide +kernel
theorem dX6_left_11 : decode cX6_left 11 = .ok (.iaload, 1) := by decide +kernel
theorem dX6_left_12 : decode cX6_left 12 = .ok (.bipush (-8), 2) := by decide +kernel
theorem dX6_left_14 : decode cX6_left 14 = .ok (.if_icmp .ne 7, 3) := by decide +kernel
theorem dX6_left_17 : decode cX6_left 17 = .ok (.iconst 0, 1) := by decide +kernel
theorem dX6_left_18 : decode cX6_left 18 = .ok (.goto 20, 3) := by decide +kernel
theorem dX6_left_21 : decode cX6_left 21 = .ok (.aload_n 0, 1) := by decide +kernel
theorem dX6_left_22 : decode cX6_left 22 = .ok (.getfield 7, 3) := by decide +kernel
theorem dX6_left_25 : decode cX6_left 25 = .ok (.aload_n 0, 1) := by decide +kernel
theorem dX6_left_26 : decode cX6_left 26 = .ok (.iload_n 1, 1) := by decide +kernel
theorem dX6_left_27 : decode cX6_left 27 = .ok (.invokevirtual 74, 3) := by decide +kernel
theorem dX6_left_30 : decode cX6_left 30 = .ok (.iconst 1, 1) := by decide +kernel
theorem dX6_left_31 : decode cX6_left 31 = .ok (.iadd, 1) := by decide +kernel
theorem dX6_left_32 : decode cX6_left 32 = .ok (.iaload, 1) := by decide +kernel
theorem dX6_left_33 : decode cX6_left 33 = .ok (.aload_n 0, 1) := by decide +kernel
theorem dX6_left_34 : decode cX6_left 34 = .ok (.getfield 67, 3) := by decide +kernel
theorem dX6_left_37 : decode cX6_left 37 = .ok (.isub, 1) := by decide +kernel
theorem dX6_left_38 : decode cX6_left 38 = .ok (.ireturn, 1) := by decide +kernel
def bfX6_left_38 (p1 : Int32) (S : MS) (s0 : Int32) : Option (Int32) :=
  some s0
def fX6_left (p1 : Int32) (S : MS) : Option (Int32) :=
  ob (fX6_slot p1 S) fun u3 => (if okI (u3 + (0 : Int32)) 5130 then (if (S.1 ((u3 + (0 : Int32))).toNatClampNeg) = (-8 : Int32) then bfX6_left_38 p1 S  ((0 : Int32)) else ob (fX6_slot p1 S) fun u4 => (if okI (u4 + (1 : Int32)) 5130 then bfX6_left_38 p1 S  (((S.1 ((u4 + (1 : Int32))).toNatClampNeg) - (S.2.2 5))) else none)) else none)
set_option maxHeartbeats 4000000 in
set_option maxRecDepth 100000 in
theorem kX6_left (l : Launch) (D : va_G) (cI cS : ClassId) (aM : Nat → Nat) (p1 : Int32) (S : MS) {q : Int32} (h : fX6_left p1 S = some q) : Mc l D (tyL cI cS) false yX6_left cX6_left 2 (some .int) 2 [.ref (aM 0), .int p1] (wM cI aM S) (some (.int q)) (wM cI aM S) := by
  refine Mc_of RX6 (by decide +kernel) rfl wc_X6_left (Nat.le_of_ble_eq_true rfl) ?_
  intro p e s m args below meth c A Q ls C hA hz hP hD hS hl RET
  have RETh : ∀ {pc : Nat} {ls : Array Slot} {H : Heap} {locs : List Loc} {x : Int32} , decode cX6_left pc = .ok (.ireturn, 1) → some x = some q → va_P D vwCl (wM cI aM S) H → va_D A (wM cI aM S) → va_S A s.heap H locs → W p l e (rmL 2) s m args below meth c H locs 0 0 Q (F0 m pc ls [.int x]) := by
    intro pc ls H locs x hd h hP hD hS; cases h; exact RET (x_iret C hd) hP hD hS
  have B38 : ∀ (s0 : Int32), bfX6_left_38 p1 S s0 = some q → ∀ (H : Heap) (locs : List Loc) (ls : Array Slot), va_P D vwCl (wM cI aM S) H → va_D A (wM cI aM S) → va_S A s.heap H locs → lv_has ls 2 [] → W p l e (rmL 2) s m args below meth c H locs 0 0 Q (F0 m 38 ls [.int s0]) := by
    intro s0 h H locs ls hP hD hS hl
    exact RETh dX6_left_38 h hP hD hS
  refine x_aload_n C dX6_left_0 rfl hl 0 rfl ?_
  refine x_get C inX6 hP 0 rfl rfl 0 (by decide) wf_X6_7 rfl dX6_left_1 ?_
  refine x_aload_n C dX6_left_4 rfl hl 0 rfl ?_
  refine x_iload_n C dX6_left_5 rfl hl 1 rfl ?_
  obtain ⟨u3, hu3, h⟩ := ob_some h
  refine x_callV (As := [.int _]) (n := 1) C (kX6_slot l D cI cS aM _ _ hu3) (fun hh => nomatch hh) wm_X6_74 wi_X6_slot we_X6_slot wz_X6 wc_X6_slot (by decide +kernel) rfl hP hD hS hA 0 3 rfl rfl rfl hl.1 dX6_left_6 rfl (Nat.le_of_ble_eq_true rfl) ⟨Nat.le_of_ble_eq_true rfl, Nat.le_of_ble_eq_true rfl⟩ ⟨Nat.zero_le _, Nat.zero_le _⟩ (fun H locs hP hD hS => ?_)
  refine x_iconst (v := (0 : Int32)) C dX6_left_9 (by decide) ?_
  refine x_iadd C dX6_left_10 ?_
  refine x_iald C h hP 1 rfl (t0 := 0) rfl dX6_left_11 (fun h => ?_)
  refine x_bipush (v := (-8 : Int32)) C dX6_left_12 (by decide) ?_
  refine x_icmp_ne (tgt := 21) C h dX6_left_14 (by decide) (fun h => ?_) (fun h => ?_)
  · refine x_aload_n C dX6_left_21 rfl hl 0 rfl ?_
    refine x_get C inX6 hP 0 rfl rfl 0 (by decide) wf_X6_7 rfl dX6_left_22 ?_
    refine x_aload_n C dX6_left_25 rfl hl 0 rfl ?_
    refine x_iload_n C dX6_left_26 rfl hl 1 rfl ?_
    obtain ⟨u4, hu4, h⟩ := ob_some h
    refine x_callV (As := [.int _]) (n := 1) C (kX6_slot l D cI cS aM _ _ hu4) (fun hh => nomatch hh) wm_X6_74 wi_X6_slot we_X6_slot wz_X6 wc_X6_slot (by decide +kernel) rfl hP hD hS hA 0 3 rfl rfl rfl hl.1 dX6_left_27 rfl (Nat.le_of_ble_eq_true rfl) ⟨Nat.le_of_ble_eq_true rfl, Nat.le_of_ble_eq_true rfl⟩ ⟨Nat.zero_le _, Nat.zero_le _⟩ (fun H locs hP hD hS => ?_)
    refine x_iconst (v := (1 : Int32)) C dX6_left_30 (by decide) ?_
    refine x_iadd C dX6_left_31 ?_
    refine x_iald C h hP 1 rfl (t0 := 0) rfl dX6_left_32 (fun h => ?_)
    refine x_aload_n C dX6_left_33 rfl hl 0 rfl ?_
    refine x_get C inX6 hP 0 rfl rfl 5 (by decide) wf_X6_67 rfl dX6_left_34 ?_
    refine x_isub C dX6_left_37 ?_
    exact B38 _ h _ _ _ hP hD hS (lv_sub hl [] rfl)
  · refine x_iconst (v := (0 : Int32)) C dX6_left_17 (by decide) ?_
    refine x_goto (tgt := 38) C dX6_left_18 (by decide) ?_
    exact B38 _ h _ _ _ hP hD hS (lv_sub hl [] rfl)
theorem dX6_takesBack_0 : decode cX6_takesBack 0 = .ok (.aload_n 0, 1) := by decide +kernel
theorem dX6_takesBack_1 : decode cX6_takesBack 1 = .ok (.getfield 7, 3) := by decide +kernel
theorem dX6_takesBack_4 : decode cX6_takesBack 4 = .ok (.sipush 595, 3) := by decide +kernel
theorem dX6_takesBack_7 : decode cX6_takesBack 7 = .ok (.iload_n 1, 1) := by decide +kernel
theorem dX6_takesBack_8 : decode cX6_takesBack 8 = .ok (.iadd, 1) := by decide +kernel
theorem dX6_takesBack_9 : decode cX6_takesBack 9 = .ok (.iaload, 1) := by decide +kernel
theorem dX6_takesBack_10 : decode cX6_takesBack 10 = .ok (.bipush (-9), 2) := by decide +kernel
theorem dX6_takesBack_12 : decode cX6_takesBack 12 = .ok (.if_icmp .ne 116, 3) := by decide +kernel
theorem dX6_takesBack_15 : decode cX6_takesBack 15 = .ok (.aload_n 0, 1) := by decide +kernel
theorem dX6_takesBack_16 : decode cX6_takesBack 16 = .ok (.getfield 7, 3) := by decide +kernel
theorem dX6_takesBack_19 : decode cX6_takesBack 19 = .ok (.sipush 574, 3) := by decide +kernel
theorem dX6_takesBack_22 : decode cX6_takesBack 22 = .ok (.iaload, 1) := by decide +kernel
theorem dX6_takesBack_23 : decode cX6_takesBack 23 = .ok (.ifCond .le 105, 3) := by decide +kernel
theorem dX6_takesBack_26 : decode cX6_takesBack 26 = .ok (.aload_n 0, 1) := by decide +kernel
theorem dX6_takesBack_27 : decode cX6_takesBack 27 = .ok (.sipush 574, 3) := by decide +kernel
theorem dX6_takesBack_30 : decode cX6_takesBack 30 = .ok (.sipush 575, 3) := by decide +kernel
theorem dX6_takesBack_33 : decode cX6_takesBack 33 = .ok (.iconst 0, 1) := by decide +kernel
theorem dX6_takesBack_34 : decode cX6_takesBack 34 = .ok (.invokevirtual 96, 3) := by decide +kernel
theorem dX6_takesBack_37 : decode cX6_takesBack 37 = .ok (.istore_n 2, 1) := by decide +kernel
theorem dX6_takesBack_38 : decode cX6_takesBack 38 = .ok (.aload_n 0, 1) := by decide +kernel
theorem dX6_takesBack_39 : decode cX6_takesBack 39 = .ok (.iconst 1, 1) := by decide +kernel
theorem dX6_takesBack_40 : decode cX6_takesBack 40 = .ok (.invokevirtual 93, 3) := by decide +kernel
theorem dX6_takesBack_43 : decode cX6_takesBack 43 = .ok (.ifCond .eq 57, 3) := by decide +kernel
theorem dX6_takesBack_46 : decode cX6_takesBack 46 = .ok (.aload_n 0, 1) := by decide +kernel
theorem dX6_takesBack_47 : decode cX6_takesBack 47 = .ok (.iload_n 2, 1) := by decide +kernel
theorem dX6_takesBack_48 : decode cX6_takesBack 48 = .ok (.invokevirtual 112, 3) := by decide +kernel
theorem dX6_takesBack_51 : decode cX6_takesBack 51 = .ok (.aload_n 0, 1) := by decide +kernel
theorem dX6_takesBack_52 : decode cX6_takesBack 52 = .ok (.getfield 7, 3) := by decide +kernel
theorem dX6_takesBack_55 : decode cX6_takesBack 55 = .ok (.aload_n 0, 1) := by decide +kernel
theorem dX6_takesBack_56 : decode cX6_takesBack 56 = .ok (.iload_n 2, 1) := by decide +kernel
theorem dX6_takesBack_57 : decode cX6_takesBack 57 = .ok (.invokevirtual 74, 3) := by decide +kernel
theorem dX6_takesBack_60 : decode cX6_takesBack 60 = .ok (.iconst 4, 1) := by decide +kernel
theorem dX6_takesBack_61 : decode cX6_takesBack 61 = .ok (.iadd, 1) := by decide +kernel
theorem dX6_takesBack_62 : decode cX6_takesBack 62 = .ok (.iaload, 1) := by decide +kernel
theorem dX6_takesBack_63 : decode cX6_takesBack 63 = .ok (.if_icmp .ge 37, 3) := by decide +kernel
theorem dX6_takesBack_66 : decode cX6_takesBack 66 = .ok (.aload_n 0, 1) := by decide +kernel
theorem dX6_takesBack_67 : decode cX6_takesBack 67 = .ok (.getfield 7, 3) := by decide +kernel
theorem dX6_takesBack_70 : decode cX6_takesBack 70 = .ok (.sipush 591, 3) := by decide +kernel
theorem dX6_takesBack_73 : decode cX6_takesBack 73 = .ok (.aload_n 0, 1) := by decide +kernel
theorem dX6_takesBack_74 : decode cX6_takesBack 74 = .ok (.getfield 7, 3) := by decide +kernel
theorem dX6_takesBack_77 : decode cX6_takesBack 77 = .ok (.aload_n 0, 1) := by decide +kernel
theorem dX6_takesBack_78 : decode cX6_takesBack 78 = .ok (.iload_n 2, 1) := by decide +kernel
theorem dX6_takesBack_79 : decode cX6_takesBack 79 = .ok (.invokevirtual 74, 3) := by decide +kernel
theorem dX6_takesBack_82 : decode cX6_takesBack 82 = .ok (.bipush 8, 2) := by decide +kernel
theorem dX6_takesBack_84 : decode cX6_takesBack 84 = .ok (.iadd, 1) := by decide +kernel
theorem dX6_takesBack_85 : decode cX6_takesBack 85 = .ok (.iaload, 1) := by decide +kernel
theorem dX6_takesBack_86 : decode cX6_takesBack 86 = .ok (.iadd, 1) := by decide +kernel
theorem dX6_takesBack_87 : decode cX6_takesBack 87 = .ok (.bipush (-9), 2) := by decide +kernel
theorem dX6_takesBack_89 : decode cX6_takesBack 89 = .ok (.iastore, 1) := by decide +kernel
theorem dX6_takesBack_90 : decode cX6_takesBack 90 = .ok (.aload_n 0, 1) := by decide +kernel
theorem dX6_takesBack_91 : decode cX6_takesBack 91 = .ok (.iload_n 2, 1) := by decide +kernel
theorem dX6_takesBack_92 : decode cX6_takesBack 92 = .ok (.bipush 6, 2) := by decide +kernel
theorem dX6_takesBack_94 : decode cX6_takesBack 94 = .ok (.invokevirtual 100, 3) := by decide +kernel
theorem dX6_takesBack_97 : decode cX6_takesBack 97 = .ok (.goto 28, 3) := by decide +kernel
theorem dX6_takesBack_100 : decode cX6_takesBack 100 = .ok (.aload_n 0, 1) := by decide +kernel
theorem dX6_takesBack_101 : decode cX6_takesBack 101 = .ok (.getfield 7, 3) := by decide +kernel
theorem dX6_takesBack_104 : decode cX6_takesBack 104 = .ok (.sipush 595, 3) := by decide +kernel
theorem dX6_takesBack_107 : decode cX6_takesBack 107 = .ok (.iload_n 1, 1) := by decide +kernel
theorem dX6_takesBack_108 : decode cX6_takesBack 108 = .ok (.iadd, 1) := by decide +kernel
theorem dX6_takesBack_109 : decode cX6_takesBack 109 = .ok (.iload_n 2, 1) := by decide +kernel
theorem dX6_takesBack_110 : decode cX6_takesBack 110 = .ok (.iastore, 1) := by decide +kernel
theorem dX6_takesBack_111 : decode cX6_takesBack 111 = .ok (.aload_n 0, 1) := by decide +kernel
theorem dX6_takesBack_112 : decode cX6_takesBack 112 = .ok (.getfield 7, 3) := by decide +kernel
theorem dX6_takesBack_115 : decode cX6_takesBack 115 = .ok (.aload_n 0, 1) := by decide +kernel
theorem dX6_takesBack_116 : decode cX6_takesBack 116 = .ok (.iload_n 2, 1) := by decide +kernel
theorem dX6_takesBack_117 : decode cX6_takesBack 117 = .ok (.invokevirtual 74, 3) := by decide +kernel
theorem dX6_takesBack_120 : decode cX6_takesBack 120 = .ok (.bipush 7, 2) := by decide +kernel
theorem dX6_takesBack_122 : decode cX6_takesBack 122 = .ok (.iadd, 1) := by decide +kernel
theorem dX6_takesBack_123 : decode cX6_takesBack 123 = .ok (.iconst 4, 1) := by decide +kernel
theorem dX6_takesBack_124 : decode cX6_takesBack 124 = .ok (.iastore, 1) := by decide +kernel
theorem dX6_takesBack_125 : decode cX6_takesBack 125 = .ok (.goto (-125), 3) := by decide +kernel
theorem dX6_takesBack_128 : decode cX6_takesBack 128 = .ok (.return_, 1) := by decide +kernel
def bfX6_takesBack_128 (p1 : Int32) (S : MS) : Option (MS) :=
  some S
def bfX6_takesBack_125 (p1 : Int32) (K0 : (MS) → Option (MS)) (S : MS) : Option (MS) :=
  K0 (S)
def bfX6_takesBack_100 (p1 : Int32) (K0 : (MS) → Option (MS)) (x2 : Int32) (S : MS) : Option (MS) :=
  (if okI ((595 : Int32) + p1) 5130 then nm (upd S.1 (((595 : Int32) + p1)).toNatClampNeg x2, S.2) fun S11 => ob (fX6_slot x2 S11) fun u12 => (if okI (u12 + (7 : Int32)) 5130 then nm (upd S11.1 ((u12 + (7 : Int32))).toNatClampNeg (4 : Int32), S11.2) fun S13 => bfX6_takesBack_125 p1 K0 S13 else none) else none)
def bfX6_takesBack_0 (p1 : Int32) (K0 : (MS) → Option (MS)) (S : (MS)) : Option (MS) :=
  (if okI ((595 : Int32) + p1) 5130 then (if (S.1 (((595 : Int32) + p1)).toNatClampNeg) = (-9 : Int32) then (if (S.1 ((574 : Int32)).toNatClampNeg) ≤ 0 then bfX6_takesBack_128 p1  S else ob (fX6_pulls (574 : Int32) (575 : Int32) (0 : Int32) S) fun u14 => ob (fX6_isOn (1 : Int32) u14.2) fun u15 => (if u15 = 0 then bfX6_takesBack_100 p1 K0 u14.1 u14.2 else ob (fX6_left u14.1 u14.2) fun u16 => ob (fX6_slot u14.1 u14.2) fun u17 => (if okI (u17 + (4 : Int32)) 5130 then (if (u14.2.1 ((u17 + (4 : Int32))).toNatClampNeg) ≤ u16 then bfX6_takesBack_100 p1 K0 u14.1 u14.2 else ob (fX6_slot u14.1 u14.2) fun u18 => (if okI (u18 + (8 : Int32)) 5130 then (if okI ((591 : Int32) + (u14.2.1 ((u18 + (8 : Int32))).toNatClampNeg)) 5130 then nm (upd u14.2.1 (((591 : Int32) + (u14.2.1 ((u18 + (8 : Int32))).toNatClampNeg))).toNatClampNeg (-9 : Int32), u14.2.2) fun S19 => ob (fX6_loses u14.1 (6 : Int32) S19) fun u20 => bfX6_takesBack_125 p1 K0 u20 else none) else none)) else none))) else bfX6_takesBack_128 p1  S) else none)
def fX6_takesBack (p1 : Int32) (S : MS) : Option (MS) :=
  iter (bfX6_takesBack_0 p1) FU (S)
set_option maxHeartbeats 4000000 in
set_option maxRecDepth 100000 in
theorem kX6_takesBack (l : Launch) (D : va_G) (cI cS : ClassId) (aM : Nat → Nat) (p1 : Int32) (S : MS) {q : MS} (h : fX6_takesBack p1 S = some q) : Mc l D (tyL cI cS) false yX6_takesBack cX6_takesBack 3 none 5 [.ref (aM 0), .int p1] (wM cI aM S) none (wM cI aM q) := by
  refine Mc_of RX6 (by decide +kernel) rfl wc_X6_takesBack (Nat.le_of_ble_eq_true rfl) ?_
  intro p e s m args below meth c A Q ls C hA hz hP hD hS hl RET
  have RETh : ∀ {pc : Nat} {ls : Array Slot} {H : Heap} {locs : List Loc} {S1 : MS}, decode cX6_takesBack pc = .ok (.return_, 1) → some S1 = some q → va_P D vwCl (wM cI aM S1) H → va_D A (wM cI aM S1) → va_S A s.heap H locs → W p l e (rmL 5) s m args below meth c H locs 0 0 Q (F0 m pc ls []) := by
    intro pc ls H locs S1 hd h hP hD hS; cases h; exact RET (x_vret C hd) hP hD hS
  have B128 : ∀ (S : MS), bfX6_takesBack_128 p1 S = some q → ∀ (H : Heap) (locs : List Loc) (ls : Array Slot), va_P D vwCl (wM cI aM S) H → va_D A (wM cI aM S) → va_S A s.heap H locs → lv_has ls 3 [] → W p l e (rmL 5) s m args below meth c H locs 0 0 Q (F0 m 128 ls []) := by
    intro S h H locs ls hP hD hS hl
    exact RETh dX6_takesBack_128 h hP hD hS
  have B125 : ∀ (K0 : (MS) → Option (MS)) (ih0 : ∀ x, K0 x = some q → (fun (S : (MS)) => ∀ (H : Heap) (locs : List Loc) (ls : Array Slot), va_P D vwCl (wM cI aM S) H → va_D A (wM cI aM S) → va_S A s.heap H locs → lv_has ls 3 [(0, .ref (aM 0)), (1, .int p1)] → W p l e (rmL 5) s m args below meth c H locs 0 0 Q (F0 m 0 ls [])) x) (S : MS), bfX6_takesBack_125 p1 K0 S = some q → ∀ (H : Heap) (locs : List Loc) (ls : Array Slot), va_P D vwCl (wM cI aM S) H → va_D A (wM cI aM S) → va_S A s.heap H locs → lv_has ls 3 [(0, .ref (aM 0)), (1, .int p1)] → W p l e (rmL 5) s m args below meth c H locs 0 0 Q (F0 m 125 ls []) := by
    intro K0 ih0 S h H locs ls hP hD hS hl
    refine x_goto (tgt := 0) C dX6_takesBack_125 (by decide) ?_
    exact ih0 _ h _ _ _ hP hD hS hl
  have B100 : ∀ (K0 : (MS) → Option (MS)) (ih0 : ∀ x, K0 x = some q → (fun (S : (MS)) => ∀ (H : Heap) (locs : List Loc) (ls : Array Slot), va_P D vwCl (wM cI aM S) H → va_D A (wM cI aM S) → va_S A s.heap H locs → lv_has ls 3 [(0, .ref (aM 0)), (1, .int p1)] → W p l e (rmL 5) s m args below meth c H locs 0 0 Q (F0 m 0 ls [])) x) (x2 : Int32) (S : MS), bfX6_takesBack_100 p1 K0 x2 S = some q → ∀ (H : Heap) (locs : List Loc) (ls : Array Slot), va_P D vwCl (wM cI aM S) H → va_D A (wM cI aM S) → va_S A s.heap H locs → lv_has ls 3 [(0, .ref (aM 0)), (1, .int p1), (2, .int x2)] → W p l e (rmL 5) s m args below meth c H locs 0 0 Q (F0 m 100 ls []) := by
    intro K0 ih0 x2 S h H locs ls hP hD hS hl
    refine x_aload_n C dX6_takesBack_100 rfl hl 0 rfl ?_
    refine x_get C inX6 hP 0 rfl rfl 0 (by decide) wf_X6_7 rfl dX6_takesBack_101 ?_
    refine x_sipush (v := (595 : Int32)) C dX6_takesBack_104 (by decide) ?_
    refine x_iload_n C dX6_takesBack_107 rfl hl 1 rfl ?_
    refine x_iadd C dX6_takesBack_108 ?_
    refine x_iload_n C dX6_takesBack_109 rfl hl 2 rfl ?_
    refine x_iastM (wM cI aM) C h hP hD hS 1 rfl (t0 := 0) rfl rfl dX6_takesBack_110 (fun S11 h H locs hP hD hS => ?_)
    refine x_aload_n C dX6_takesBack_111 rfl hl 0 rfl ?_
    refine x_get C inX6 hP 0 rfl rfl 0 (by decide) wf_X6_7 rfl dX6_takesBack_112 ?_
    refine x_aload_n C dX6_takesBack_115 rfl hl 0 rfl ?_
    refine x_iload_n C dX6_takesBack_116 rfl hl 2 rfl ?_
    obtain ⟨u12, hu12, h⟩ := ob_some h
    refine x_callV (As := [.int _]) (n := 1) C (kX6_slot l D cI cS aM _ _ hu12) (fun hh => nomatch hh) wm_X6_74 wi_X6_slot we_X6_slot wz_X6 wc_X6_slot (by decide +kernel) rfl hP hD hS hA 0 3 rfl rfl rfl hl.1 dX6_takesBack_117 rfl (Nat.le_of_ble_eq_true rfl) ⟨Nat.le_of_ble_eq_true rfl, Nat.le_of_ble_eq_true rfl⟩ ⟨Nat.zero_le _, Nat.zero_le _⟩ (fun H locs hP hD hS => ?_)
    refine x_bipush (v := (7 : Int32)) C dX6_takesBack_120 (by decide) ?_
    refine x_iadd C dX6_takesBack_122 ?_
    refine x_iconst (v := (4 : Int32)) C dX6_takesBack_123 (by decide) ?_
    refine x_iastM (wM cI aM) C h hP hD hS 1 rfl (t0 := 0) rfl rfl dX6_takesBack_124 (fun S13 h H locs hP hD hS => ?_)
    exact B125 K0 ih0 _ h _ _ _ hP hD hS (lv_sub hl [0, 1] rfl)
  have B0 : ∀ (n : Nat) (x : (MS)), iter (bfX6_takesBack_0 p1) n x = some q → (fun (S : (MS)) => ∀ (H : Heap) (locs : List Loc) (ls : Array Slot), va_P D vwCl (wM cI aM S) H → va_D A (wM cI aM S) → va_S A s.heap H locs → lv_has ls 3 [(0, .ref (aM 0)), (1, .int p1)] → W p l e (rmL 5) s m args below meth c H locs 0 0 Q (F0 m 0 ls [])) x := by
    refine iter_ind (fun x : (MS) => (fun (S : (MS)) => ∀ (H : Heap) (locs : List Loc) (ls : Array Slot), va_P D vwCl (wM cI aM S) H → va_D A (wM cI aM S) → va_S A s.heap H locs → lv_has ls 3 [(0, .ref (aM 0)), (1, .int p1)] → W p l e (rmL 5) s m args below meth c H locs 0 0 Q (F0 m 0 ls [])) x) ?_
    intro K0 ih0 x h
    obtain ⟨S, rfl⟩ : ∃ y, y = x := ⟨_, rfl⟩
    intro H locs ls hP hD hS hl
    refine x_aload_n C dX6_takesBack_0 rfl hl 0 rfl ?_
    refine x_get C inX6 hP 0 rfl rfl 0 (by decide) wf_X6_7 rfl dX6_takesBack_1 ?_
    refine x_sipush (v := (595 : Int32)) C dX6_takesBack_4 (by decide) ?_
    refine x_iload_n C dX6_takesBack_7 rfl hl 1 rfl ?_
    refine x_iadd C dX6_takesBack_8 ?_
    refine x_iald C h hP 1 rfl (t0 := 0) rfl dX6_takesBack_9 (fun h => ?_)
    refine x_bipush (v := (-9 : Int32)) C dX6_takesBack_10 (by decide) ?_
    refine x_icmp_ne (tgt := 128) C h dX6_takesBack_12 (by decide) (fun h => ?_) (fun h => ?_)
    · exact B128 _ h _ _ _ hP hD hS (lv_sub hl [] rfl)
    · refine x_aload_n C dX6_takesBack_15 rfl hl 0 rfl ?_
      refine x_get C inX6 hP 0 rfl rfl 0 (by decide) wf_X6_7 rfl dX6_takesBack_16 ?_
      refine x_sipush (v := (574 : Int32)) C dX6_takesBack_19 (by decide) ?_
      refine x_ialdK C (by decide) hP 1 rfl (t0 := 0) rfl dX6_takesBack_22 ?_
      refine x_if_le (tgt := 128) C h dX6_takesBack_23 (by decide) (fun h => ?_) (fun h => ?_)
      · exact B128 _ h _ _ _ hP hD hS (lv_sub hl [] rfl)
      · refine x_aload_n C dX6_takesBack_26 rfl hl 0 rfl ?_
        refine x_sipush (v := (574 : Int32)) C dX6_takesBack_27 (by decide) ?_
        refine x_sipush (v := (575 : Int32)) C dX6_takesBack_30 (by decide) ?_
        refine x_iconst (v := (0 : Int32)) C dX6_takesBack_33 (by decide) ?_
        obtain ⟨u14, hu14, h⟩ := ob_some h
        refine x_callV (As := [.int _, .int _, .int _]) (n := 3) C (kX6_pulls l D cI cS aM _ _ _ _ hu14) (fun hh => nomatch hh) wm_X6_96 wi_X6_pulls we_X6_pulls wz_X6 wc_X6_pulls (by decide +kernel) rfl hP hD hS hA 0 3 rfl rfl rfl hl.1 dX6_takesBack_34 rfl (Nat.le_of_ble_eq_true rfl) ⟨Nat.le_of_ble_eq_true rfl, Nat.le_of_ble_eq_true rfl⟩ ⟨Nat.zero_le _, Nat.zero_le _⟩ (fun H locs hP hD hS => ?_)
        refine x_istore_n (lv' := [(2, .int u14.1), (0, .ref (aM 0)), (1, .int p1)]) C dX6_takesBack_37 rfl hl (by decide) rfl (fun ls hl => ?_)
        refine x_aload_n C dX6_takesBack_38 rfl hl 1 rfl ?_
        refine x_iconst (v := (1 : Int32)) C dX6_takesBack_39 (by decide) ?_
        obtain ⟨u15, hu15, h⟩ := ob_some h
        refine x_callV (As := [.int _]) (n := 1) C (kX6_isOn l D cI cS aM _ _ hu15) (fun hh => nomatch hh) wm_X6_93 wi_X6_isOn we_X6_isOn wz_X6 wc_X6_isOn (by decide +kernel) rfl hP hD hS hA 0 3 rfl rfl rfl hl.1 dX6_takesBack_40 rfl (Nat.le_of_ble_eq_true rfl) ⟨Nat.le_of_ble_eq_true rfl, Nat.le_of_ble_eq_true rfl⟩ ⟨Nat.zero_le _, Nat.zero_le _⟩ (fun H locs hP hD hS => ?_)
        refine x_if_eq (tgt := 100) C h dX6_takesBack_43 (by decide) (fun h => ?_) (fun h => ?_)
        · exact B100 K0 ih0 _ _ h _ _ _ hP hD hS (lv_sub hl [1, 2, 0] rfl)
        · refine x_aload_n C dX6_takesBack_46 rfl hl 1 rfl ?_
          refine x_iload_n C dX6_takesBack_47 rfl hl 0 rfl ?_
          obtain ⟨u16, hu16, h⟩ := ob_some h
          refine x_callV (As := [.int _]) (n := 1) C (kX6_left l D cI cS aM _ _ hu16) (fun hh => nomatch hh) wm_X6_112 wi_X6_left we_X6_left wz_X6 wc_X6_left (by decide +kernel) rfl hP hD hS hA 0 3 rfl rfl rfl hl.1 dX6_takesBack_48 rfl (Nat.le_of_ble_eq_true rfl) ⟨Nat.le_of_ble_eq_true rfl, Nat.le_of_ble_eq_true rfl⟩ ⟨Nat.zero_le _, Nat.zero_le _⟩ (fun H locs hP hD hS => ?_)
          refine x_aload_n C dX6_takesBack_51 rfl hl 1 rfl ?_
          refine x_get C inX6 hP 0 rfl rfl 0 (by decide) wf_X6_7 rfl dX6_takesBack_52 ?_
          refine x_aload_n C dX6_takesBack_55 rfl hl 1 rfl ?_
          refine x_iload_n C dX6_takesBack_56 rfl hl 0 rfl ?_
          obtain ⟨u17, hu17, h⟩ := ob_some h
          refine x_callV (As := [.int _]) (n := 1) C (kX6_slot l D cI cS aM _ _ hu17) (fun hh => nomatch hh) wm_X6_74 wi_X6_slot we_X6_slot wz_X6 wc_X6_slot (by decide +kernel) rfl hP hD hS hA 0 3 rfl rfl rfl hl.1 dX6_takesBack_57 rfl (Nat.le_of_ble_eq_true rfl) ⟨Nat.le_of_ble_eq_true rfl, Nat.le_of_ble_eq_true rfl⟩ ⟨Nat.zero_le _, Nat.zero_le _⟩ (fun H locs hP hD hS => ?_)
          refine x_iconst (v := (4 : Int32)) C dX6_takesBack_60 (by decide) ?_
          refine x_iadd C dX6_takesBack_61 ?_
          refine x_iald C h hP 1 rfl (t0 := 0) rfl dX6_takesBack_62 (fun h => ?_)
          refine x_icmp_ge (tgt := 100) C h dX6_takesBack_63 (by decide) (fun h => ?_) (fun h => ?_)
          · exact B100 K0 ih0 _ _ h _ _ _ hP hD hS (lv_sub hl [1, 2, 0] rfl)
          · refine x_aload_n C dX6_takesBack_66 rfl hl 1 rfl ?_
            refine x_get C inX6 hP 0 rfl rfl 0 (by decide) wf_X6_7 rfl dX6_takesBack_67 ?_
            refine x_sipush (v := (591 : Int32)) C dX6_takesBack_70 (by decide) ?_
            refine x_aload_n C dX6_takesBack_73 rfl hl 1 rfl ?_
            refine x_get C inX6 hP 0 rfl rfl 0 (by decide) wf_X6_7 rfl dX6_takesBack_74 ?_
            refine x_aload_n C dX6_takesBack_77 rfl hl 1 rfl ?_
            refine x_iload_n C dX6_takesBack_78 rfl hl 0 rfl ?_
            obtain ⟨u18, hu18, h⟩ := ob_some h
            refine x_callV (As := [.int _]) (n := 1) C (kX6_slot l D cI cS aM _ _ hu18) (fun hh => nomatch hh) wm_X6_74 wi_X6_slot we_X6_slot wz_X6 wc_X6_slot (by decide +kernel) rfl hP hD hS hA 0 3 rfl rfl rfl hl.1 dX6_takesBack_79 rfl (Nat.le_of_ble_eq_true rfl) ⟨Nat.le_of_ble_eq_true rfl, Nat.le_of_ble_eq_true rfl⟩ ⟨Nat.zero_le _, Nat.zero_le _⟩ (fun H locs hP hD hS => ?_)
            refine x_bipush (v := (8 : Int32)) C dX6_takesBack_82 (by decide) ?_
            refine x_iadd C dX6_takesBack_84 ?_
            refine x_iald C h hP 1 rfl (t0 := 0) rfl dX6_takesBack_85 (fun h => ?_)
            refine x_iadd C dX6_takesBack_86 ?_
            refine x_bipush (v := (-9 : Int32)) C dX6_takesBack_87 (by decide) ?_
            refine x_iastM (wM cI aM) C h hP hD hS 1 rfl (t0 := 0) rfl rfl dX6_takesBack_89 (fun S19 h H locs hP hD hS => ?_)
            refine x_aload_n C dX6_takesBack_90 rfl hl 1 rfl ?_
            refine x_iload_n C dX6_takesBack_91 rfl hl 0 rfl ?_
            refine x_bipush (v := (6 : Int32)) C dX6_takesBack_92 (by decide) ?_
            obtain ⟨u20, hu20, h⟩ := ob_some h
            refine x_callV (As := [.int _, .int _]) (n := 2) C (kX6_loses l D cI cS aM _ _ _ hu20) (fun hh => nomatch hh) wm_X6_100 wi_X6_loses we_X6_loses wz_X6 wc_X6_loses (by decide +kernel) rfl hP hD hS hA 0 3 rfl rfl rfl hl.1 dX6_takesBack_94 rfl (Nat.le_of_ble_eq_true rfl) ⟨Nat.le_of_ble_eq_true rfl, Nat.le_of_ble_eq_true rfl⟩ ⟨Nat.zero_le _, Nat.zero_le _⟩ (fun H locs hP hD hS => ?_)
            refine x_goto (tgt := 125) C dX6_takesBack_97 (by decide) ?_
            exact B125 K0 ih0 _ h _ _ _ hP hD hS (lv_sub hl [1, 2] rfl)
  exact B0 FU _ h _ _ _ hP hD hS hl
theorem dX6_chosen_0 : decode cX6_chosen 0 = .ok (.aload_n 0, 1) := by decide +kernel
theorem dX6_chosen_1 : decode cX6_chosen 1 = .ok (.getfield 7, 3) := by decide +kernel
theorem dX6_chosen_4 : decode cX6_chosen 4 = .ok (.sipush 557, 3) := by decide +kernel
theorem dX6_chosen_7 : decode cX6_chosen 7 = .ok (.iaload, 1) := by decide +kernel
theorem dX6_chosen_8 : decode cX6_chosen 8 = .ok (.iconst 1, 1) := by decide +kernel
theorem dX6_chosen_9 : decode cX6_chosen 9 = .ok (.isub, 1) := by decide +kernel
theorem dX6_chosen_10 : decode cX6_chosen 10 = .ok (.istore_n 1, 1) := by decide +kernel
theorem dX6_chosen_11 : decode cX6_chosen 11 = .ok (.aload_n 0, 1) := by decide +kernel
theorem dX6_chosen_12 : decode cX6_chosen 12 = .ok (.getfield 7, 3) := by decide +kernel
theorem dX6_chosen_15 : decode cX6_chosen 15 = .ok (.sipush 178, 3) := by decide +kernel
theorem dX6_chosen_18 : decode cX6_chosen 18 = .ok (.iaload, 1) := by decide +kernel
theorem dX6_chosen_19 : decode cX6_chosen 19 = .ok (.iconst 1, 1) := by decide +kernel
theorem dX6_chosen_20 : decode cX6_chosen 20 = .ok (.if_icmp .eq 36, 3) := by decide +kernel
theorem dX6_chosen_23 : decode cX6_chosen 23 = .ok (.aload_n 0, 1) := by decide +kernel
theorem dX6_chosen_24 : decode cX6_chosen 24 = .ok (.getfield 7, 3) := by decide +kernel
theorem dX6_chosen_27 : decode cX6_chosen 27 = .ok (.sipush 178, 3) := by decide +kernel
theorem dX6_chosen_30 : decode cX6_chosen 30 = .ok (.iaload, 1) := by decide +kernel
theorem dX6_chosen_31 : decode cX6_chosen 31 = .ok (.iconst 2, 1) := by decide +kernel
theorem dX6_chosen_32 : decode cX6_chosen 32 = .ok (.if_icmp .ne 26, 3) := by decide +kernel
theorem dX6_chosen_35 : decode cX6_chosen 35 = .ok (.iconst 2, 1) := by decide +kernel
theorem dX6_chosen_36 : decode cX6_chosen 36 = .ok (.aload_n 0, 1) := by decide +kernel
theorem dX6_chosen_37 : decode cX6_chosen 37 = .ok (.getfield 7, 3) := by decide +kernel
theorem dX6_chosen_40 : decode cX6_chosen 40 = .ok (.sipush 557, 3) := by decide +kernel
theorem dX6_chosen_43 : decode cX6_chosen 43 = .ok (.iaload, 1) := by decide +kernel
theorem dX6_chosen_44 : decode cX6_chosen 44 = .ok (.imul, 1) := by decide +kernel
theorem dX6_chosen_45 : decode cX6_chosen 45 = .ok (.aload_n 0, 1) := by decide +kernel
theorem dX6_chosen_46 : decode cX6_chosen 46 = .ok (.getfield 7, 3) := by decide +kernel
theorem dX6_chosen_49 : decode cX6_chosen 49 = .ok (.sipush 175, 3) := by decide +kernel
theorem dX6_chosen_52 : decode cX6_chosen 52 = .ok (.iaload, 1) := by decide +kernel
theorem dX6_chosen_53 : decode cX6_chosen 53 = .ok (.if_icmp .le 5, 3) := by decide +kernel
theorem dX6_chosen_56 : decode cX6_chosen 56 = .ok (.iload_n 1, 1) := by decide +kernel
theorem dX6_chosen_57 : decode cX6_chosen 57 = .ok (.ireturn, 1) := by decide +kernel
theorem dX6_chosen_58 : decode cX6_chosen 58 = .ok (.iconst 0, 1) := by decide +kernel
theorem dX6_chosen_59 : decode cX6_chosen 59 = .ok (.istore_n 2, 1) := by decide +kernel
theorem dX6_chosen_60 : decode cX6_chosen 60 = .ok (.iconst 1, 1) := by decide +kernel
theorem dX6_chosen_61 : decode cX6_chosen 61 = .ok (.istore_n 3, 1) := by decide +kernel
theorem dX6_chosen_62 : decode cX6_chosen 62 = .ok (.iload_n 3, 1) := by decide +kernel
theorem dX6_chosen_63 : decode cX6_chosen 63 = .ok (.iload_n 1, 1) := by decide +kernel
theorem dX6_chosen_64 : decode cX6_chosen 64 = .ok (.if_icmp .gt 72, 3) := by decide +kernel
theorem dX6_chosen_67 : decode cX6_chosen 67 = .ok (.aload_n 0, 1) := by decide +kernel
theorem dX6_chosen_68 : decode cX6_chosen 68 = .ok (.getfield 7, 3) := by decide +kernel
theorem dX6_chosen_71 : decode cX6_chosen 71 = .ok (.sipush 178, 3) := by decide +kernel
theorem dX6_chosen_74 : decode cX6_chosen 74 = .ok (.iaload, 1) := by decide +kernel
theorem dX6_chosen_75 : decode cX6_chosen 75 = .ok (.iconst 3, 1) := by decide +kernel
theorem dX6_chosen_76 : decode cX6_chosen 76 = .ok (.if_icmp .ne 60, 3) := by decide +kernel
theorem dX6_chosen_79 : decode cX6_chosen 79 = .ok (.aload_n 0, 1) := by decide +kernel
theorem dX6_chosen_80 : decode cX6_chosen 80 = .ok (.getfield 7, 3) := by decide +kernel
theorem dX6_chosen_83 : decode cX6_chosen 83 = .ok (.aload_n 0, 1) := by decide +kernel
theorem dX6_chosen_84 : decode cX6_chosen 84 = .ok (.aload_n 0, 1) := by decide +kernel
theorem dX6_chosen_85 : decode cX6_chosen 85 = .ok (.getfield 7, 3) := by decide +kernel
theorem dX6_chosen_88 : decode cX6_chosen 88 = .ok (.sipush 558, 3) := by decide +kernel
theorem dX6_chosen_91 : decode cX6_chosen 91 = .ok (.iload_n 3, 1) := by decide +kernel
theorem dX6_chosen_92 : decode cX6_chosen 92 = .ok (.iadd, 1) := by decide +kernel
theorem dX6_chosen_93 : decode cX6_chosen 93 = .ok (.iaload, 1) := by decide +kernel
theorem dX6_chosen_94 : decode cX6_chosen 94 = .ok (.invokevirtual 74, 3) := by decide +kernel
theorem dX6_chosen_97 : decode cX6_chosen 97 = .ok (.iconst 1, 1) := by decide +kernel
theorem dX6_chosen_98 : decode cX6_chosen 98 = .ok (.iadd, 1) := by decide +kernel
theorem dX6_chosen_99 : decode cX6_chosen 99 = .ok (.iaload, 1) := by decide +kernel
theorem dX6_chosen_100 : decode cX6_chosen 100 = .ok (.aload_n 0, 1) := by decide +kernel
theorem dX6_chosen_101 : decode cX6_chosen 101 = .ok (.getfield 7, 3) := by decide +kernel
theorem dX6_chosen_104 : decode cX6_chosen 104 = .ok (.aload_n 0, 1) := by decide +kernel
theorem dX6_chosen_105 : decode cX6_chosen 105 = .ok (.aload_n 0, 1) := by decide +kernel
theorem dX6_chosen_106 : decode cX6_chosen 106 = .ok (.getfield 7, 3) := by decide +kernel
theorem dX6_chosen_109 : decode cX6_chosen 109 = .ok (.sipush 558, 3) := by decide +kernel
theorem dX6_chosen_112 : decode cX6_chosen 112 = .ok (.iload_n 2, 1) := by decide +kernel
theorem dX6_chosen_113 : decode cX6_chosen 113 = .ok (.iadd, 1) := by decide +kernel
theorem dX6_chosen_114 : decode cX6_chosen 114 = .ok (.iaload, 1) := by decide +kernel
theorem dX6_chosen_115 : decode cX6_chosen 115 = .ok (.invokevirtual 74, 3) := by decide +kernel
theorem dX6_chosen_118 : decode cX6_chosen 118 = .ok (.iconst 1, 1) := by decide +kernel
theorem dX6_chosen_119 : decode cX6_chosen 119 = .ok (.iadd, 1) := by decide +kernel
theorem dX6_chosen_120 : decode cX6_chosen 120 = .ok (.iaload, 1) := by decide +kernel
theorem dX6_chosen_121 : decode cX6_chosen 121 = .ok (.if_icmp .ge 7, 3) := by decide +kernel
theorem dX6_chosen_124 : decode cX6_chosen 124 = .ok (.iload_n 3, 1) := by decide +kernel
theorem dX6_chosen_125 : decode cX6_chosen 125 = .ok (.goto 4, 3) := by decide +kernel
theorem dX6_chosen_128 : decode cX6_chosen 128 = .ok (.iload_n 2, 1) := by decide +kernel
theorem dX6_chosen_129 : decode cX6_chosen 129 = .ok (.istore_n 2, 1) := by decide +kernel
theorem dX6_chosen_130 : decode cX6_chosen 130 = .ok (.iinc 3 1, 3) := by decide +kernel
theorem dX6_chosen_133 : decode cX6_chosen 133 = .ok (.goto (-71), 3) := by decide +kernel
theorem dX6_chosen_136 : decode cX6_chosen 136 = .ok (.iload_n 2, 1) := by decide +kernel
theorem dX6_chosen_137 : decode cX6_chosen 137 = .ok (.ireturn, 1) := by decide +kernel
def bfX6_chosen_136 (S : MS) (x2 : Int32) : Option (Int32) :=
  some x2
def bfX6_chosen_129 (S : MS) (K62 : Int32 × Int32 × Int32 → Option (Int32)) (x1 : Int32) (x3 : Int32) (s0 : Int32) : Option (Int32) :=
  K62 (x1, s0, (x3 + (1 : Int32)))
def bfX6_chosen_62 (S : MS) (K62 : Int32 × Int32 × Int32 → Option (Int32)) (x : Int32 × Int32 × Int32) : Option (Int32) :=
  match x with
  | (x1, x2, x3) => (if x1 < x3 then bfX6_chosen_136 S  x2 else (if (S.1 ((178 : Int32)).toNatClampNeg) = (3 : Int32) then (if okI ((558 : Int32) + x3) 5130 then ob (fX6_slot ((S.1 (((558 : Int32) + x3)).toNatClampNeg)) S) fun u4 => (if okI (u4 + (1 : Int32)) 5130 then (if okI ((558 : Int32) + x2) 5130 then ob (fX6_slot ((S.1 (((558 : Int32) + x2)).toNatClampNeg)) S) fun u5 => (if okI (u5 + (1 : Int32)) 5130 then (if (S.1 ((u5 + (1 : Int32))).toNatClampNeg) ≤ (S.1 ((u4 + (1 : Int32))).toNatClampNeg) then bfX6_chosen_129 S K62 x1 x3 x2 else bfX6_chosen_129 S K62 x1 x3 x3) else none) else none) else none) else none) else bfX6_chosen_136 S  x2))
def bfX6_chosen_58 (S : MS) (x1 : Int32) : Option (Int32) :=
  iter (bfX6_chosen_62 S) FU (x1, (0 : Int32), (1 : Int32))
def bfX6_chosen_56 (S : MS) (x1 : Int32) : Option (Int32) :=
  some x1
def fX6_chosen (S : MS) : Option (Int32) :=
  nm (((S.1 ((557 : Int32)).toNatClampNeg) - (1 : Int32))) fun v6 => (if (S.1 ((178 : Int32)).toNatClampNeg) = (1 : Int32) then bfX6_chosen_56 S  v6 else (if (S.1 ((178 : Int32)).toNatClampNeg) = (2 : Int32) then (if ((2 : Int32) * (S.1 ((557 : Int32)).toNatClampNeg)) ≤ (S.1 ((175 : Int32)).toNatClampNeg) then bfX6_chosen_58 S  v6 else bfX6_chosen_56 S  v6) else bfX6_chosen_58 S  v6))
set_option maxHeartbeats 4000000 in
set_option maxRecDepth 100000 in
theorem kX6_chosen (l : Launch) (D : va_G) (cI cS : ClassId) (aM : Nat → Nat) (S : MS) {q : Int32} (h : fX6_chosen S = some q) : Mc l D (tyL cI cS) false yX6_chosen cX6_chosen 4 (some .int) 2 [.ref (aM 0)] (wM cI aM S) (some (.int q)) (wM cI aM S) := by
  refine Mc_of RX6 (by decide +kernel) rfl wc_X6_chosen (Nat.le_of_ble_eq_true rfl) ?_
  intro p e s m args below meth c A Q ls C hA hz hP hD hS hl RET
  have RETh : ∀ {pc : Nat} {ls : Array Slot} {H : Heap} {locs : List Loc} {x : Int32} , decode cX6_chosen pc = .ok (.ireturn, 1) → some x = some q → va_P D vwCl (wM cI aM S) H → va_D A (wM cI aM S) → va_S A s.heap H locs → W p l e (rmL 2) s m args below meth c H locs 0 0 Q (F0 m pc ls [.int x]) := by
    intro pc ls H locs x hd h hP hD hS; cases h; exact RET (x_iret C hd) hP hD hS
  have B136 : ∀ (x2 : Int32), bfX6_chosen_136 S x2 = some q → ∀ (H : Heap) (locs : List Loc) (ls : Array Slot), va_P D vwCl (wM cI aM S) H → va_D A (wM cI aM S) → va_S A s.heap H locs → lv_has ls 4 [(2, .int x2)] → W p l e (rmL 2) s m args below meth c H locs 0 0 Q (F0 m 136 ls []) := by
    intro x2 h H locs ls hP hD hS hl
    refine x_iload_n C dX6_chosen_136 rfl hl 0 rfl ?_
    exact RETh dX6_chosen_137 h hP hD hS
  have B129 : ∀ (K62 : Int32 × Int32 × Int32 → Option (Int32)) (ih62 : ∀ x, K62 x = some q → (match x with | (x1, x2, x3) => ∀ (H : Heap) (locs : List Loc) (ls : Array Slot), va_P D vwCl (wM cI aM S) H → va_D A (wM cI aM S) → va_S A s.heap H locs → lv_has ls 4 [(0, .ref (aM 0)), (1, .int x1), (2, .int x2), (3, .int x3)] → W p l e (rmL 2) s m args below meth c H locs 0 0 Q (F0 m 62 ls []))) (x1 : Int32) (x3 : Int32) (s0 : Int32), bfX6_chosen_129 S K62 x1 x3 s0 = some q → ∀ (H : Heap) (locs : List Loc) (ls : Array Slot), va_P D vwCl (wM cI aM S) H → va_D A (wM cI aM S) → va_S A s.heap H locs → lv_has ls 4 [(0, .ref (aM 0)), (1, .int x1), (3, .int x3)] → W p l e (rmL 2) s m args below meth c H locs 0 0 Q (F0 m 129 ls [.int s0]) := by
    intro K62 ih62 x1 x3 s0 h H locs ls hP hD hS hl
    refine x_istore_n (lv' := [(2, .int s0), (0, .ref (aM 0)), (1, .int x1), (3, .int x3)]) C dX6_chosen_129 rfl hl (by decide) rfl (fun ls hl => ?_)
    refine x_iinc (v := (x3 + (1 : Int32))) (lv' := [(3, .int (x3 + (1 : Int32))), (2, .int s0), (0, .ref (aM 0)), (1, .int x1)]) C dX6_chosen_130 hl (k := 3) rfl rfl (by decide) rfl (fun ls hl => ?_)
    refine x_goto (tgt := 62) C dX6_chosen_133 (by decide) ?_
    exact ih62 _ h _ _ _ hP hD hS (lv_sub hl [2, 3, 1, 0] rfl)
  have B62 : ∀ (n : Nat) (x : Int32 × Int32 × Int32), iter (bfX6_chosen_62 S) n x = some q → (match x with | (x1, x2, x3) => ∀ (H : Heap) (locs : List Loc) (ls : Array Slot), va_P D vwCl (wM cI aM S) H → va_D A (wM cI aM S) → va_S A s.heap H locs → lv_has ls 4 [(0, .ref (aM 0)), (1, .int x1), (2, .int x2), (3, .int x3)] → W p l e (rmL 2) s m args below meth c H locs 0 0 Q (F0 m 62 ls [])) := by
    refine iter_ind (fun x : Int32 × Int32 × Int32 => (match x with | (x1, x2, x3) => ∀ (H : Heap) (locs : List Loc) (ls : Array Slot), va_P D vwCl (wM cI aM S) H → va_D A (wM cI aM S) → va_S A s.heap H locs → lv_has ls 4 [(0, .ref (aM 0)), (1, .int x1), (2, .int x2), (3, .int x3)] → W p l e (rmL 2) s m args below meth c H locs 0 0 Q (F0 m 62 ls []))) ?_
    intro K62 ih62 x h
    obtain ⟨x1, x2, x3⟩ := x
    intro H locs ls hP hD hS hl
    refine x_iload_n C dX6_chosen_62 rfl hl 3 rfl ?_
    refine x_iload_n C dX6_chosen_63 rfl hl 1 rfl ?_
    refine x_icmp_gt (tgt := 136) C h dX6_chosen_64 (by decide) (fun h => ?_) (fun h => ?_)
    · exact B136 _ h _ _ _ hP hD hS (lv_sub hl [2] rfl)
    · refine x_aload_n C dX6_chosen_67 rfl hl 0 rfl ?_
      refine x_get C inX6 hP 0 rfl rfl 0 (by decide) wf_X6_7 rfl dX6_chosen_68 ?_
      refine x_sipush (v := (178 : Int32)) C dX6_chosen_71 (by decide) ?_
      refine x_ialdK C (by decide) hP 1 rfl (t0 := 0) rfl dX6_chosen_74 ?_
      refine x_iconst (v := (3 : Int32)) C dX6_chosen_75 (by decide) ?_
      refine x_icmp_ne (tgt := 136) C h dX6_chosen_76 (by decide) (fun h => ?_) (fun h => ?_)
      · exact B136 _ h _ _ _ hP hD hS (lv_sub hl [2] rfl)
      · refine x_aload_n C dX6_chosen_79 rfl hl 0 rfl ?_
        refine x_get C inX6 hP 0 rfl rfl 0 (by decide) wf_X6_7 rfl dX6_chosen_80 ?_
        refine x_aload_n C dX6_chosen_83 rfl hl 0 rfl ?_
        refine x_aload_n C dX6_chosen_84 rfl hl 0 rfl ?_
        refine x_get C inX6 hP 0 rfl rfl 0 (by decide) wf_X6_7 rfl dX6_chosen_85 ?_
        refine x_sipush (v := (558 : Int32)) C dX6_chosen_88 (by decide) ?_
        refine x_iload_n C dX6_chosen_91 rfl hl 3 rfl ?_
        refine x_iadd C dX6_chosen_92 ?_
        refine x_iald C h hP 1 rfl (t0 := 0) rfl dX6_chosen_93 (fun h => ?_)
        obtain ⟨u4, hu4, h⟩ := ob_some h
        refine x_callV (As := [.int _]) (n := 1) C (kX6_slot l D cI cS aM _ _ hu4) (fun hh => nomatch hh) wm_X6_74 wi_X6_slot we_X6_slot wz_X6 wc_X6_slot (by decide +kernel) rfl hP hD hS hA 0 3 rfl rfl rfl hl.1 dX6_chosen_94 rfl (Nat.le_of_ble_eq_true rfl) ⟨Nat.le_of_ble_eq_true rfl, Nat.le_of_ble_eq_true rfl⟩ ⟨Nat.zero_le _, Nat.zero_le _⟩ (fun H locs hP hD hS => ?_)
        refine x_iconst (v := (1 : Int32)) C dX6_chosen_97 (by decide) ?_
        refine x_iadd C dX6_chosen_98 ?_
        refine x_iald C h hP 1 rfl (t0 := 0) rfl dX6_chosen_99 (fun h => ?_)
        refine x_aload_n C dX6_chosen_100 rfl hl 0 rfl ?_
        refine x_get C inX6 hP 0 rfl rfl 0 (by decide) wf_X6_7 rfl dX6_chosen_101 ?_
        refine x_aload_n C dX6_chosen_104 rfl hl 0 rfl ?_
        refine x_aload_n C dX6_chosen_105 rfl hl 0 rfl ?_
        refine x_get C inX6 hP 0 rfl rfl 0 (by decide) wf_X6_7 rfl dX6_chosen_106 ?_
        refine x_sipush (v := (558 : Int32)) C dX6_chosen_109 (by decide) ?_
        refine x_iload_n C dX6_chosen_112 rfl hl 2 rfl ?_
        refine x_iadd C dX6_chosen_113 ?_
        refine x_iald C h hP 1 rfl (t0 := 0) rfl dX6_chosen_114 (fun h => ?_)
        obtain ⟨u5, hu5, h⟩ := ob_some h
        refine x_callV (As := [.int _]) (n := 1) C (kX6_slot l D cI cS aM _ _ hu5) (fun hh => nomatch hh) wm_X6_74 wi_X6_slot we_X6_slot wz_X6 wc_X6_slot (by decide +kernel) rfl hP hD hS hA 0 3 rfl rfl rfl hl.1 dX6_chosen_115 rfl (Nat.le_of_ble_eq_true rfl) ⟨Nat.le_of_ble_eq_true rfl, Nat.le_of_ble_eq_true rfl⟩ ⟨Nat.zero_le _, Nat.zero_le _⟩ (fun H locs hP hD hS => ?_)
        refine x_iconst (v := (1 : Int32)) C dX6_chosen_118 (by decide) ?_
        refine x_iadd C dX6_chosen_119 ?_
        refine x_iald C h hP 1 rfl (t0 := 0) rfl dX6_chosen_120 (fun h => ?_)
        refine x_icmp_ge (tgt := 128) C h dX6_chosen_121 (by decide) (fun h => ?_) (fun h => ?_)
        · refine x_iload_n C dX6_chosen_128 rfl hl 2 rfl ?_
          exact B129 K62 ih62 _ _ _ h _ _ _ hP hD hS (lv_sub hl [0, 1, 3] rfl)
        · refine x_iload_n C dX6_chosen_124 rfl hl 3 rfl ?_
          refine x_goto (tgt := 129) C dX6_chosen_125 (by decide) ?_
          exact B129 K62 ih62 _ _ _ h _ _ _ hP hD hS (lv_sub hl [0, 1, 3] rfl)
  have B58 : ∀ (x1 : Int32), bfX6_chosen_58 S x1 = some q → ∀ (H : Heap) (locs : List Loc) (ls : Array Slot), va_P D vwCl (wM cI aM S) H → va_D A (wM cI aM S) → va_S A s.heap H locs → lv_has ls 4 [(0, .ref (aM 0)), (1, .int x1)] → W p l e (rmL 2) s m args below meth c H locs 0 0 Q (F0 m 58 ls []) := by
    intro x1 h H locs ls hP hD hS hl
    refine x_iconst (v := (0 : Int32)) C dX6_chosen_58 (by decide) ?_
    refine x_istore_n (lv' := [(2, .int (0 : Int32)), (0, .ref (aM 0)), (1, .int x1)]) C dX6_chosen_59 rfl hl (by decide) rfl (fun ls hl => ?_)
    refine x_iconst (v := (1 : Int32)) C dX6_chosen_60 (by decide) ?_
    refine x_istore_n (lv' := [(3, .int (1 : Int32)), (2, .int (0 : Int32)), (0, .ref (aM 0)), (1, .int x1)]) C dX6_chosen_61 rfl hl (by decide) rfl (fun ls hl => ?_)
    exact B62 FU _ h _ _ _ hP hD hS (lv_sub hl [2, 3, 1, 0] rfl)
  have B56 : ∀ (x1 : Int32), bfX6_chosen_56 S x1 = some q → ∀ (H : Heap) (locs : List Loc) (ls : Array Slot), va_P D vwCl (wM cI aM S) H → va_D A (wM cI aM S) → va_S A s.heap H locs → lv_has ls 4 [(1, .int x1)] → W p l e (rmL 2) s m args below meth c H locs 0 0 Q (F0 m 56 ls []) := by
    intro x1 h H locs ls hP hD hS hl
    refine x_iload_n C dX6_chosen_56 rfl hl 0 rfl ?_
    exact RETh dX6_chosen_57 h hP hD hS
  refine x_aload_n C dX6_chosen_0 rfl hl 0 rfl ?_
  refine x_get C inX6 hP 0 rfl rfl 0 (by decide) wf_X6_7 rfl dX6_chosen_1 ?_
  refine x_sipush (v := (557 : Int32)) C dX6_chosen_4 (by decide) ?_
  refine x_ialdK C (by decide) hP 1 rfl (t0 := 0) rfl dX6_chosen_7 ?_
  refine x_iconst (v := (1 : Int32)) C dX6_chosen_8 (by decide) ?_
  refine x_isub C dX6_chosen_9 ?_
  refine x_nmi h (fun v6 h => ?_)
  refine x_istore_n (lv' := [(1, .int v6), (0, .ref (aM 0))]) C dX6_chosen_10 rfl hl (by decide) rfl (fun ls hl => ?_)
  refine x_aload_n C dX6_chosen_11 rfl hl 1 rfl ?_
  refine x_get C inX6 hP 0 rfl rfl 0 (by decide) wf_X6_7 rfl dX6_chosen_12 ?_
  refine x_sipush (v := (178 : Int32)) C dX6_chosen_15 (by decide) ?_
  refine x_ialdK C (by decide) hP 1 rfl (t0 := 0) rfl dX6_chosen_18 ?_
  refine x_iconst (v := (1 : Int32)) C dX6_chosen_19 (by decide) ?_
  refine x_icmp_eq (tgt := 56) C h dX6_chosen_20 (by decide) (fun h => ?_) (fun h => ?_)
  · exact B56 _ h _ _ _ hP hD hS (lv_sub hl [0] rfl)
  · refine x_aload_n C dX6_chosen_23 rfl hl 1 rfl ?_
    refine x_get C inX6 hP 0 rfl rfl 0 (by decide) wf_X6_7 rfl dX6_chosen_24 ?_
    refine x_sipush (v := (178 : Int32)) C dX6_chosen_27 (by decide) ?_
    refine x_ialdK C (by decide) hP 1 rfl (t0 := 0) rfl dX6_chosen_30 ?_
    refine x_iconst (v := (2 : Int32)) C dX6_chosen_31 (by decide) ?_
    refine x_icmp_ne (tgt := 58) C h dX6_chosen_32 (by decide) (fun h => ?_) (fun h => ?_)
    · exact B58 _ h _ _ _ hP hD hS (lv_sub hl [1, 0] rfl)
    · refine x_iconst (v := (2 : Int32)) C dX6_chosen_35 (by decide) ?_
      refine x_aload_n C dX6_chosen_36 rfl hl 1 rfl ?_
      refine x_get C inX6 hP 0 rfl rfl 0 (by decide) wf_X6_7 rfl dX6_chosen_37 ?_
      refine x_sipush (v := (557 : Int32)) C dX6_chosen_40 (by decide) ?_
      refine x_ialdK C (by decide) hP 1 rfl (t0 := 0) rfl dX6_chosen_43 ?_
      refine x_imul C dX6_chosen_44 ?_
      refine x_aload_n C dX6_chosen_45 rfl hl 1 rfl ?_
      refine x_get C inX6 hP 0 rfl rfl 0 (by decide) wf_X6_7 rfl dX6_chosen_46 ?_
      refine x_sipush (v := (175 : Int32)) C dX6_chosen_49 (by decide) ?_
      refine x_ialdK C (by decide) hP 1 rfl (t0 := 0) rfl dX6_chosen_52 ?_
      refine x_icmp_le (tgt := 58) C h dX6_chosen_53 (by decide) (fun h => ?_) (fun h => ?_)
      · exact B58 _ h _ _ _ hP hD hS (lv_sub hl [1, 0] rfl)
      · exact B56 _ h _ _ _ hP hD hS (lv_sub hl [0] rfl)
theorem dX6_takesFront_0 : decode cX6_takesFront 0 = .ok (.aload_n 0, 1) := by decide +kernel
theorem dX6_takesFront_1 : decode cX6_takesFront 1 = .ok (.getfield 7, 3) := by decide +kernel
theorem dX6_takesFront_4 : decode cX6_takesFront 4 = .ok (.sipush 591, 3) := by decide +kernel
theorem dX6_takesFront_7 : decode cX6_takesFront 7 = .ok (.iload_n 1, 1) := by decide +kernel
theorem dX6_takesFront_8 : decode cX6_takesFront 8 = .ok (.iadd, 1) := by decide +kernel
theorem dX6_takesFront_9 : decode cX6_takesFront 9 = .ok (.iaload, 1) := by decide +kernel
theorem dX6_takesFront_10 : decode cX6_takesFront 10 = .ok (.bipush (-9), 2) := by decide +kernel
theorem dX6_takesFront_12 : decode cX6_takesFront 12 = .ok (.if_icmp .ne 122, 3) := by decide +kernel
theorem dX6_takesFront_15 : decode cX6_takesFront 15 = .ok (.aload_n 0, 1) := by decide +kernel
theorem dX6_takesFront_16 : decode cX6_takesFront 16 = .ok (.getfield 7, 3) := by decide +kernel
theorem dX6_takesFront_19 : decode cX6_takesFront 19 = .ok (.sipush 557, 3) := by decide +kernel
theorem dX6_takesFront_22 : decode cX6_takesFront 22 = .ok (.iaload, 1) := by decide +kernel
theorem dX6_takesFront_23 : decode cX6_takesFront 23 = .ok (.ifCond .le 111, 3) := by decide +kernel
theorem dX6_takesFront_26 : decode cX6_takesFront 26 = .ok (.aload_n 0, 1) := by decide +kernel
theorem dX6_takesFront_27 : decode cX6_takesFront 27 = .ok (.sipush 557, 3) := by decide +kernel
theorem dX6_takesFront_30 : decode cX6_takesFront 30 = .ok (.sipush 558, 3) := by decide +kernel
theorem dX6_takesFront_33 : decode cX6_takesFront 33 = .ok (.aload_n 0, 1) := by decide +kernel
theorem dX6_takesFront_34 : decode cX6_takesFront 34 = .ok (.invokevirtual 115, 3) := by decide +kernel
theorem dX6_takesFront_37 : decode cX6_takesFront 37 = .ok (.invokevirtual 96, 3) := by decide +kernel
theorem dX6_takesFront_40 : decode cX6_takesFront 40 = .ok (.istore_n 2, 1) := by decide +kernel
theorem dX6_takesFront_41 : decode cX6_takesFront 41 = .ok (.aload_n 0, 1) := by decide +kernel
theorem dX6_takesFront_42 : decode cX6_takesFront 42 = .ok (.iconst 1, 1) := by decide +kernel
theorem dX6_takesFront_43 : decode cX6_takesFront 43 = .ok (.invokevirtual 93, 3) := by decide +kernel
theorem dX6_takesFront_46 : decode cX6_takesFront 46 = .ok (.ifCond .eq 46, 3) := by decide +kernel
theorem dX6_takesFront_49 : decode cX6_takesFront 49 = .ok (.aload_n 0, 1) := by decide +kernel
theorem dX6_takesFront_50 : decode cX6_takesFront 50 = .ok (.iload_n 2, 1) := by decide +kernel
theorem dX6_takesFront_51 : decode cX6_takesFront 51 = .ok (.invokevirtual 112, 3) := by decide +kernel
theorem dX6_takesFront_54 : decode cX6_takesFront 54 = .ok (.aload_n 0, 1) := by decide +kernel
theorem dX6_takesFront_55 : decode cX6_takesFront 55 = .ok (.getfield 7, 3) := by decide +kernel
theorem dX6_takesFront_58 : decode cX6_takesFront 58 = .ok (.aload_n 0, 1) := by decide +kernel
theorem dX6_takesFront_59 : decode cX6_takesFront 59 = .ok (.iload_n 2, 1) := by decide +kernel
theorem dX6_takesFront_60 : decode cX6_takesFront 60 = .ok (.invokevirtual 74, 3) := by decide +kernel
theorem dX6_takesFront_63 : decode cX6_takesFront 63 = .ok (.iconst 2, 1) := by decide +kernel
theorem dX6_takesFront_64 : decode cX6_takesFront 64 = .ok (.iadd, 1) := by decide +kernel
theorem dX6_takesFront_65 : decode cX6_takesFront 65 = .ok (.iaload, 1) := by decide +kernel
theorem dX6_takesFront_66 : decode cX6_takesFront 66 = .ok (.aload_n 0, 1) := by decide +kernel
theorem dX6_takesFront_67 : decode cX6_takesFront 67 = .ok (.getfield 7, 3) := by decide +kernel
theorem dX6_takesFront_70 : decode cX6_takesFront 70 = .ok (.aload_n 0, 1) := by decide +kernel
theorem dX6_takesFront_71 : decode cX6_takesFront 71 = .ok (.iload_n 2, 1) := by decide +kernel
theorem dX6_takesFront_72 : decode cX6_takesFront 72 = .ok (.invokevirtual 74, 3) := by decide +kernel
theorem dX6_takesFront_75 : decode cX6_takesFront 75 = .ok (.iconst 4, 1) := by decide +kernel
theorem dX6_takesFront_76 : decode cX6_takesFront 76 = .ok (.iadd, 1) := by decide +kernel
theorem dX6_takesFront_77 : decode cX6_takesFront 77 = .ok (.iaload, 1) := by decide +kernel
theorem dX6_takesFront_78 : decode cX6_takesFront 78 = .ok (.iadd, 1) := by decide +kernel
theorem dX6_takesFront_79 : decode cX6_takesFront 79 = .ok (.if_icmp .ge 13, 3) := by decide +kernel
theorem dX6_takesFront_82 : decode cX6_takesFront 82 = .ok (.aload_n 0, 1) := by decide +kernel
theorem dX6_takesFront_83 : decode cX6_takesFront 83 = .ok (.iload_n 2, 1) := by decide +kernel
theorem dX6_takesFront_84 : decode cX6_takesFront 84 = .ok (.bipush 6, 2) := by decide +kernel
theorem dX6_takesFront_86 : decode cX6_takesFront 86 = .ok (.invokevirtual 100, 3) := by decide +kernel
theorem dX6_takesFront_89 : decode cX6_takesFront 89 = .ok (.goto 42, 3) := by decide +kernel
theorem dX6_takesFront_92 : decode cX6_takesFront 92 = .ok (.aload_n 0, 1) := by decide +kernel
theorem dX6_takesFront_93 : decode cX6_takesFront 93 = .ok (.getfield 7, 3) := by decide +kernel
theorem dX6_takesFront_96 : decode cX6_takesFront 96 = .ok (.sipush 591, 3) := by decide +kernel
theorem dX6_takesFront_99 : decode cX6_takesFront 99 = .ok (.iload_n 1, 1) := by decide +kernel
theorem dX6_takesFront_100 : decode cX6_takesFront 100 = .ok (.iadd, 1) := by decide +kernel
theorem dX6_takesFront_101 : decode cX6_takesFront 101 = .ok (.iload_n 2, 1) := by decide +kernel
theorem dX6_takesFront_102 : decode cX6_takesFront 102 = .ok (.iastore, 1) := by decide +kernel
theorem dX6_takesFront_103 : decode cX6_takesFront 103 = .ok (.aload_n 0, 1) := by decide +kernel
theorem dX6_takesFront_104 : decode cX6_takesFront 104 = .ok (.getfield 7, 3) := by decide +kernel
theorem dX6_takesFront_107 : decode cX6_takesFront 107 = .ok (.aload_n 0, 1) := by decide +kernel
theorem dX6_takesFront_108 : decode cX6_takesFront 108 = .ok (.iload_n 2, 1) := by decide +kernel
theorem dX6_takesFront_109 : decode cX6_takesFront 109 = .ok (.invokevirtual 74, 3) := by decide +kernel
theorem dX6_takesFront_112 : decode cX6_takesFront 112 = .ok (.bipush 7, 2) := by decide +kernel
theorem dX6_takesFront_114 : decode cX6_takesFront 114 = .ok (.iadd, 1) := by decide +kernel
theorem dX6_takesFront_115 : decode cX6_takesFront 115 = .ok (.iconst 2, 1) := by decide +kernel
theorem dX6_takesFront_116 : decode cX6_takesFront 116 = .ok (.iastore, 1) := by decide +kernel
theorem dX6_takesFront_117 : decode cX6_takesFront 117 = .ok (.aload_n 0, 1) := by decide +kernel
theorem dX6_takesFront_118 : decode cX6_takesFront 118 = .ok (.getfield 7, 3) := by decide +kernel
theorem dX6_takesFront_121 : decode cX6_takesFront 121 = .ok (.aload_n 0, 1) := by decide +kernel
theorem dX6_takesFront_122 : decode cX6_takesFront 122 = .ok (.iload_n 2, 1) := by decide +kernel
theorem dX6_takesFront_123 : decode cX6_takesFront 123 = .ok (.invokevirtual 74, 3) := by decide +kernel
theorem dX6_takesFront_126 : decode cX6_takesFront 126 = .ok (.bipush 8, 2) := by decide +kernel
theorem dX6_takesFront_128 : decode cX6_takesFront 128 = .ok (.iadd, 1) := by decide +kernel
theorem dX6_takesFront_129 : decode cX6_takesFront 129 = .ok (.iload_n 1, 1) := by decide +kernel
theorem dX6_takesFront_130 : decode cX6_takesFront 130 = .ok (.iastore, 1) := by decide +kernel
theorem dX6_takesFront_131 : decode cX6_takesFront 131 = .ok (.goto (-131), 3) := by decide +kernel
theorem dX6_takesFront_134 : decode cX6_takesFront 134 = .ok (.return_, 1) := by decide +kernel
def bfX6_takesFront_134 (p1 : Int32) (S : MS) : Option (MS) :=
  some S
def bfX6_takesFront_131 (p1 : Int32) (K0 : (MS) → Option (MS)) (S : MS) : Option (MS) :=
  K0 (S)
def bfX6_takesFront_92 (p1 : Int32) (K0 : (MS) → Option (MS)) (x2 : Int32) (S : MS) : Option (MS) :=
  (if okI ((591 : Int32) + p1) 5130 then nm (upd S.1 (((591 : Int32) + p1)).toNatClampNeg x2, S.2) fun S13 => ob (fX6_slot x2 S13) fun u14 => (if okI (u14 + (7 : Int32)) 5130 then nm (upd S13.1 ((u14 + (7 : Int32))).toNatClampNeg (2 : Int32), S13.2) fun S15 => ob (fX6_slot x2 S15) fun u16 => (if okI (u16 + (8 : Int32)) 5130 then nm (upd S15.1 ((u16 + (8 : Int32))).toNatClampNeg p1, S15.2) fun S17 => bfX6_takesFront_131 p1 K0 S17 else none) else none) else none)
def bfX6_takesFront_0 (p1 : Int32) (K0 : (MS) → Option (MS)) (S : (MS)) : Option (MS) :=
  (if okI ((591 : Int32) + p1) 5130 then (if (S.1 (((591 : Int32) + p1)).toNatClampNeg) = (-9 : Int32) then (if (S.1 ((557 : Int32)).toNatClampNeg) ≤ 0 then bfX6_takesFront_134 p1  S else ob (fX6_chosen  S) fun u18 => ob (fX6_pulls (557 : Int32) (558 : Int32) u18 S) fun u19 => ob (fX6_isOn (1 : Int32) u19.2) fun u20 => (if u20 = 0 then bfX6_takesFront_92 p1 K0 u19.1 u19.2 else ob (fX6_left u19.1 u19.2) fun u21 => ob (fX6_slot u19.1 u19.2) fun u22 => (if okI (u22 + (2 : Int32)) 5130 then ob (fX6_slot u19.1 u19.2) fun u23 => (if okI (u23 + (4 : Int32)) 5130 then (if ((u19.2.1 ((u22 + (2 : Int32))).toNatClampNeg) + (u19.2.1 ((u23 + (4 : Int32))).toNatClampNeg)) ≤ u21 then bfX6_takesFront_92 p1 K0 u19.1 u19.2 else ob (fX6_loses u19.1 (6 : Int32) u19.2) fun u24 => bfX6_takesFront_131 p1 K0 u24) else none) else none))) else bfX6_takesFront_134 p1  S) else none)
def fX6_takesFront (p1 : Int32) (S : MS) : Option (MS) :=
  iter (bfX6_takesFront_0 p1) FU (S)
set_option maxHeartbeats 4000000 in
set_option maxRecDepth 100000 in
theorem kX6_takesFront (l : Launch) (D : va_G) (cI cS : ClassId) (aM : Nat → Nat) (p1 : Int32) (S : MS) {q : MS} (h : fX6_takesFront p1 S = some q) : Mc l D (tyL cI cS) false yX6_takesFront cX6_takesFront 3 none 5 [.ref (aM 0), .int p1] (wM cI aM S) none (wM cI aM q) := by
  refine Mc_of RX6 (by decide +kernel) rfl wc_X6_takesFront (Nat.le_of_ble_eq_true rfl) ?_
  intro p e s m args below meth c A Q ls C hA hz hP hD hS hl RET
  have RETh : ∀ {pc : Nat} {ls : Array Slot} {H : Heap} {locs : List Loc} {S1 : MS}, decode cX6_takesFront pc = .ok (.return_, 1) → some S1 = some q → va_P D vwCl (wM cI aM S1) H → va_D A (wM cI aM S1) → va_S A s.heap H locs → W p l e (rmL 5) s m args below meth c H locs 0 0 Q (F0 m pc ls []) := by
    intro pc ls H locs S1 hd h hP hD hS; cases h; exact RET (x_vret C hd) hP hD hS
  have B134 : ∀ (S : MS), bfX6_takesFront_134 p1 S = some q → ∀ (H : Heap) (locs : List Loc) (ls : Array Slot), va_P D vwCl (wM cI aM S) H → va_D A (wM cI aM S) → va_S A s.heap H locs → lv_has ls 3 [] → W p l e (rmL 5) s m args below meth c H locs 0 0 Q (F0 m 134 ls []) := by
    intro S h H locs ls hP hD hS hl
    exact RETh dX6_takesFront_134 h hP hD hS
  have B131 : ∀ (K0 : (MS) → Option (MS)) (ih0 : ∀ x, K0 x = some q → (fun (S : (MS)) => ∀ (H : Heap) (locs : List Loc) (ls : Array Slot), va_P D vwCl (wM cI aM S) H → va_D A (wM cI aM S) → va_S A s.heap H locs → lv_has ls 3 [(0, .ref (aM 0)), (1, .int p1)] → W p l e (rmL 5) s m args below meth c H locs 0 0 Q (F0 m 0 ls [])) x) (S : MS), bfX6_takesFront_131 p1 K0 S = some q → ∀ (H : Heap) (locs : List Loc) (ls : Array Slot), va_P D vwCl (wM cI aM S) H → va_D A (wM cI aM S) → va_S A s.heap H locs → lv_has ls 3 [(0, .ref (aM 0)), (1, .int p1)] → W p l e (rmL 5) s m args below meth c H locs 0 0 Q (F0 m 131 ls []) := by
    intro K0 ih0 S h H locs ls hP hD hS hl
    refine x_goto (tgt := 0) C dX6_takesFront_131 (by decide) ?_
    exact ih0 _ h _ _ _ hP hD hS hl
  have B92 : ∀ (K0 : (MS) → Option (MS)) (ih0 : ∀ x, K0 x = some q → (fun (S : (MS)) => ∀ (H : Heap) (locs : List Loc) (ls : Array Slot), va_P D vwCl (wM cI aM S) H → va_D A (wM cI aM S) → va_S A s.heap H locs → lv_has ls 3 [(0, .ref (aM 0)), (1, .int p1)] → W p l e (rmL 5) s m args below meth c H locs 0 0 Q (F0 m 0 ls [])) x) (x2 : Int32) (S : MS), bfX6_takesFront_92 p1 K0 x2 S = some q → ∀ (H : Heap) (locs : List Loc) (ls : Array Slot), va_P D vwCl (wM cI aM S) H → va_D A (wM cI aM S) → va_S A s.heap H locs → lv_has ls 3 [(0, .ref (aM 0)), (1, .int p1), (2, .int x2)] → W p l e (rmL 5) s m args below meth c H locs 0 0 Q (F0 m 92 ls []) := by
    intro K0 ih0 x2 S h H locs ls hP hD hS hl
    refine x_aload_n C dX6_takesFront_92 rfl hl 0 rfl ?_
    refine x_get C inX6 hP 0 rfl rfl 0 (by decide) wf_X6_7 rfl dX6_takesFront_93 ?_
    refine x_sipush (v := (591 : Int32)) C dX6_takesFront_96 (by decide) ?_
    refine x_iload_n C dX6_takesFront_99 rfl hl 1 rfl ?_
    refine x_iadd C dX6_takesFront_100 ?_
    refine x_iload_n C dX6_takesFront_101 rfl hl 2 rfl ?_
    refine x_iastM (wM cI aM) C h hP hD hS 1 rfl (t0 := 0) rfl rfl dX6_takesFront_102 (fun S13 h H locs hP hD hS => ?_)
    refine x_aload_n C dX6_takesFront_103 rfl hl 0 rfl ?_
    refine x_get C inX6 hP 0 rfl rfl 0 (by decide) wf_X6_7 rfl dX6_takesFront_104 ?_
    refine x_aload_n C dX6_takesFront_107 rfl hl 0 rfl ?_
    refine x_iload_n C dX6_takesFront_108 rfl hl 2 rfl ?_
    obtain ⟨u14, hu14, h⟩ := ob_some h
    refine x_callV (As := [.int _]) (n := 1) C (kX6_slot l D cI cS aM _ _ hu14) (fun hh => nomatch hh) wm_X6_74 wi_X6_slot we_X6_slot wz_X6 wc_X6_slot (by decide +kernel) rfl hP hD hS hA 0 3 rfl rfl rfl hl.1 dX6_takesFront_109 rfl (Nat.le_of_ble_eq_true rfl) ⟨Nat.le_of_ble_eq_true rfl, Nat.le_of_ble_eq_true rfl⟩ ⟨Nat.zero_le _, Nat.zero_le _⟩ (fun H locs hP hD hS => ?_)
    refine x_bipush (v := (7 : Int32)) C dX6_takesFront_112 (by decide) ?_
    refine x_iadd C dX6_takesFront_114 ?_
    refine x_iconst (v := (2 : Int32)) C dX6_takesFront_115 (by decide) ?_
    refine x_iastM (wM cI aM) C h hP hD hS 1 rfl (t0 := 0) rfl rfl dX6_takesFront_116 (fun S15 h H locs hP hD hS => ?_)
    refine x_aload_n C dX6_takesFront_117 rfl hl 0 rfl ?_
    refine x_get C inX6 hP 0 rfl rfl 0 (by decide) wf_X6_7 rfl dX6_takesFront_118 ?_
    refine x_aload_n C dX6_takesFront_121 rfl hl 0 rfl ?_
    refine x_iload_n C dX6_takesFront_122 rfl hl 2 rfl ?_
    obtain ⟨u16, hu16, h⟩ := ob_some h
    refine x_callV (As := [.int _]) (n := 1) C (kX6_slot l D cI cS aM _ _ hu16) (fun hh => nomatch hh) wm_X6_74 wi_X6_slot we_X6_slot wz_X6 wc_X6_slot (by decide +kernel) rfl hP hD hS hA 0 3 rfl rfl rfl hl.1 dX6_takesFront_123 rfl (Nat.le_of_ble_eq_true rfl) ⟨Nat.le_of_ble_eq_true rfl, Nat.le_of_ble_eq_true rfl⟩ ⟨Nat.zero_le _, Nat.zero_le _⟩ (fun H locs hP hD hS => ?_)
    refine x_bipush (v := (8 : Int32)) C dX6_takesFront_126 (by decide) ?_
    refine x_iadd C dX6_takesFront_128 ?_
    refine x_iload_n C dX6_takesFront_129 rfl hl 1 rfl ?_
    refine x_iastM (wM cI aM) C h hP hD hS 1 rfl (t0 := 0) rfl rfl dX6_takesFront_130 (fun S17 h H locs hP hD hS => ?_)
    exact B131 K0 ih0 _ h _ _ _ hP hD hS (lv_sub hl [0, 1] rfl)
  have B0 : ∀ (n : Nat) (x : (MS)), iter (bfX6_takesFront_0 p1) n x = some q → (fun (S : (MS)) => ∀ (H : Heap) (locs : List Loc) (ls : Array Slot), va_P D vwCl (wM cI aM S) H → va_D A (wM cI aM S) → va_S A s.heap H locs → lv_has ls 3 [(0, .ref (aM 0)), (1, .int p1)] → W p l e (rmL 5) s m args below meth c H locs 0 0 Q (F0 m 0 ls [])) x := by
    refine iter_ind (fun x : (MS) => (fun (S : (MS)) => ∀ (H : Heap) (locs : List Loc) (ls : Array Slot), va_P D vwCl (wM cI aM S) H → va_D A (wM cI aM S) → va_S A s.heap H locs → lv_has ls 3 [(0, .ref (aM 0)), (1, .int p1)] → W p l e (rmL 5) s m args below meth c H locs 0 0 Q (F0 m 0 ls [])) x) ?_
    intro K0 ih0 x h
    obtain ⟨S, rfl⟩ : ∃ y, y = x := ⟨_, rfl⟩
    intro H locs ls hP hD hS hl
    refine x_aload_n C dX6_takesFront_0 rfl hl 0 rfl ?_
    refine x_get C inX6 hP 0 rfl rfl 0 (by decide) wf_X6_7 rfl dX6_takesFront_1 ?_
    refine x_sipush (v := (591 : Int32)) C dX6_takesFront_4 (by decide) ?_
    refine x_iload_n C dX6_takesFront_7 rfl hl 1 rfl ?_
    refine x_iadd C dX6_takesFront_8 ?_
    refine x_iald C h hP 1 rfl (t0 := 0) rfl dX6_takesFront_9 (fun h => ?_)
    refine x_bipush (v := (-9 : Int32)) C dX6_takesFront_10 (by decide) ?_
    refine x_icmp_ne (tgt := 134) C h dX6_takesFront_12 (by decide) (fun h => ?_) (fun h => ?_)
    · exact B134 _ h _ _ _ hP hD hS (lv_sub hl [] rfl)
    · refine x_aload_n C dX6_takesFront_15 rfl hl 0 rfl ?_
      refine x_get C inX6 hP 0 rfl rfl 0 (by decide) wf_X6_7 rfl dX6_takesFront_16 ?_
      refine x_sipush (v := (557 : Int32)) C dX6_takesFront_19 (by decide) ?_
      refine x_ialdK C (by decide) hP 1 rfl (t0 := 0) rfl dX6_takesFront_22 ?_
      refine x_if_le (tgt := 134) C h dX6_takesFront_23 (by decide) (fun h => ?_) (fun h => ?_)
      · exact B134 _ h _ _ _ hP hD hS (lv_sub hl [] rfl)
      · refine x_aload_n C dX6_takesFront_26 rfl hl 0 rfl ?_
        refine x_sipush (v := (557 : Int32)) C dX6_takesFront_27 (by decide) ?_
        refine x_sipush (v := (558 : Int32)) C dX6_takesFront_30 (by decide) ?_
        refine x_aload_n C dX6_takesFront_33 rfl hl 0 rfl ?_
        obtain ⟨u18, hu18, h⟩ := ob_some h
        refine x_callV (As := []) (n := 0) C (kX6_chosen l D cI cS aM  _ hu18) (fun hh => nomatch hh) wm_X6_115 wi_X6_chosen we_X6_chosen wz_X6 wc_X6_chosen (by decide +kernel) rfl hP hD hS hA 0 3 rfl rfl rfl hl.1 dX6_takesFront_34 rfl (Nat.le_of_ble_eq_true rfl) ⟨Nat.le_of_ble_eq_true rfl, Nat.le_of_ble_eq_true rfl⟩ ⟨Nat.zero_le _, Nat.zero_le _⟩ (fun H locs hP hD hS => ?_)
        obtain ⟨u19, hu19, h⟩ := ob_some h
        refine x_callV (As := [.int _, .int _, .int _]) (n := 3) C (kX6_pulls l D cI cS aM _ _ _ _ hu19) (fun hh => nomatch hh) wm_X6_96 wi_X6_pulls we_X6_pulls wz_X6 wc_X6_pulls (by decide +kernel) rfl hP hD hS hA 0 3 rfl rfl rfl hl.1 dX6_takesFront_37 rfl (Nat.le_of_ble_eq_true rfl) ⟨Nat.le_of_ble_eq_true rfl, Nat.le_of_ble_eq_true rfl⟩ ⟨Nat.zero_le _, Nat.zero_le _⟩ (fun H locs hP hD hS => ?_)
        refine x_istore_n (lv' := [(2, .int u19.1), (0, .ref (aM 0)), (1, .int p1)]) C dX6_takesFront_40 rfl hl (by decide) rfl (fun ls hl => ?_)
        refine x_aload_n C dX6_takesFront_41 rfl hl 1 rfl ?_
        refine x_iconst (v := (1 : Int32)) C dX6_takesFront_42 (by decide) ?_
        obtain ⟨u20, hu20, h⟩ := ob_some h
        refine x_callV (As := [.int _]) (n := 1) C (kX6_isOn l D cI cS aM _ _ hu20) (fun hh => nomatch hh) wm_X6_93 wi_X6_isOn we_X6_isOn wz_X6 wc_X6_isOn (by decide +kernel) rfl hP hD hS hA 0 3 rfl rfl rfl hl.1 dX6_takesFront_43 rfl (Nat.le_of_ble_eq_true rfl) ⟨Nat.le_of_ble_eq_true rfl, Nat.le_of_ble_eq_true rfl⟩ ⟨Nat.zero_le _, Nat.zero_le _⟩ (fun H locs hP hD hS => ?_)
        refine x_if_eq (tgt := 92) C h dX6_takesFront_46 (by decide) (fun h => ?_) (fun h => ?_)
        · exact B92 K0 ih0 _ _ h _ _ _ hP hD hS (lv_sub hl [1, 2, 0] rfl)
        · refine x_aload_n C dX6_takesFront_49 rfl hl 1 rfl ?_
          refine x_iload_n C dX6_takesFront_50 rfl hl 0 rfl ?_
          obtain ⟨u21, hu21, h⟩ := ob_some h
          refine x_callV (As := [.int _]) (n := 1) C (kX6_left l D cI cS aM _ _ hu21) (fun hh => nomatch hh) wm_X6_112 wi_X6_left we_X6_left wz_X6 wc_X6_left (by decide +kernel) rfl hP hD hS hA 0 3 rfl rfl rfl hl.1 dX6_takesFront_51 rfl (Nat.le_of_ble_eq_true rfl) ⟨Nat.le_of_ble_eq_true rfl, Nat.le_of_ble_eq_true rfl⟩ ⟨Nat.zero_le _, Nat.zero_le _⟩ (fun H locs hP hD hS => ?_)
          refine x_aload_n C dX6_takesFront_54 rfl hl 1 rfl ?_
          refine x_get C inX6 hP 0 rfl rfl 0 (by decide) wf_X6_7 rfl dX6_takesFront_55 ?_
          refine x_aload_n C dX6_takesFront_58 rfl hl 1 rfl ?_
          refine x_iload_n C dX6_takesFront_59 rfl hl 0 rfl ?_
          obtain ⟨u22, hu22, h⟩ := ob_some h
          refine x_callV (As := [.int _]) (n := 1) C (kX6_slot l D cI cS aM _ _ hu22) (fun hh => nomatch hh) wm_X6_74 wi_X6_slot we_X6_slot wz_X6 wc_X6_slot (by decide +kernel) rfl hP hD hS hA 0 3 rfl rfl rfl hl.1 dX6_takesFront_60 rfl (Nat.le_of_ble_eq_true rfl) ⟨Nat.le_of_ble_eq_true rfl, Nat.le_of_ble_eq_true rfl⟩ ⟨Nat.zero_le _, Nat.zero_le _⟩ (fun H locs hP hD hS => ?_)
          refine x_iconst (v := (2 : Int32)) C dX6_takesFront_63 (by decide) ?_
          refine x_iadd C dX6_takesFront_64 ?_
          refine x_iald C h hP 1 rfl (t0 := 0) rfl dX6_takesFront_65 (fun h => ?_)
          refine x_aload_n C dX6_takesFront_66 rfl hl 1 rfl ?_
          refine x_get C inX6 hP 0 rfl rfl 0 (by decide) wf_X6_7 rfl dX6_takesFront_67 ?_
          refine x_aload_n C dX6_takesFront_70 rfl hl 1 rfl ?_
          refine x_iload_n C dX6_takesFront_71 rfl hl 0 rfl ?_
          obtain ⟨u23, hu23, h⟩ := ob_some h
          refine x_callV (As := [.int _]) (n := 1) C (kX6_slot l D cI cS aM _ _ hu23) (fun hh => nomatch hh) wm_X6_74 wi_X6_slot we_X6_slot wz_X6 wc_X6_slot (by decide +kernel) rfl hP hD hS hA 0 3 rfl rfl rfl hl.1 dX6_takesFront_72 rfl (Nat.le_of_ble_eq_true rfl) ⟨Nat.le_of_ble_eq_true rfl, Nat.le_of_ble_eq_true rfl⟩ ⟨Nat.zero_le _, Nat.zero_le _⟩ (fun H locs hP hD hS => ?_)
          refine x_iconst (v := (4 : Int32)) C dX6_takesFront_75 (by decide) ?_
          refine x_iadd C dX6_takesFront_76 ?_
          refine x_iald C h hP 1 rfl (t0 := 0) rfl dX6_takesFront_77 (fun h => ?_)
          refine x_iadd C dX6_takesFront_78 ?_
          refine x_icmp_ge (tgt := 92) C h dX6_takesFront_79 (by decide) (fun h => ?_) (fun h => ?_)
          · exact B92 K0 ih0 _ _ h _ _ _ hP hD hS (lv_sub hl [1, 2, 0] rfl)
          · refine x_aload_n C dX6_takesFront_82 rfl hl 1 rfl ?_
            refine x_iload_n C dX6_takesFront_83 rfl hl 0 rfl ?_
            refine x_bipush (v := (6 : Int32)) C dX6_takesFront_84 (by decide) ?_
            obtain ⟨u24, hu24, h⟩ := ob_some h
            refine x_callV (As := [.int _, .int _]) (n := 2) C (kX6_loses l D cI cS aM _ _ _ hu24) (fun hh => nomatch hh) wm_X6_100 wi_X6_loses we_X6_loses wz_X6 wc_X6_loses (by decide +kernel) rfl hP hD hS hA 0 3 rfl rfl rfl hl.1 dX6_takesFront_86 rfl (Nat.le_of_ble_eq_true rfl) ⟨Nat.le_of_ble_eq_true rfl, Nat.le_of_ble_eq_true rfl⟩ ⟨Nat.zero_le _, Nat.zero_le _⟩ (fun H locs hP hD hS => ?_)
            refine x_goto (tgt := 131) C dX6_takesFront_89 (by decide) ?_
            exact B131 K0 ih0 _ h _ _ _ hP hD hS (lv_sub hl [1, 2] rfl)
  exact B0 FU _ h _ _ _ hP hD hS hl
theorem dX6_works_0 : decode cX6_works 0 = .ok (.iconst 0, 1) := by decide +kernel
theorem dX6_works_1 : decode cX6_works 1 = .ok (.istore_n 1, 1) := by decide +kernel
theorem dX6_works_2 : decode cX6_works 2 = .ok (.iload_n 1, 1) := by decide +kernel
theorem dX6_works_3 : decode cX6_works 3 = .ok (.iconst 4, 1) := by decide +kernel
theorem dX6_works_4 : decode cX6_works 4 = .ok (.if_icmp .ge 126, 3) := by decide +kernel
theorem dX6_works_7 : decode cX6_works 7 = .ok (.aload_n 0, 1) := by decide +kernel
theorem dX6_works_8 : decode cX6_works 8 = .ok (.getfield 7, 3) := by decide +kernel
theorem dX6_works_11 : decode cX6_works 11 = .ok (.sipush 595, 3) := by decide +kernel
theorem dX6_works_14 : decode cX6_works 14 = .ok (.iload_n 1, 1) := by decide +kernel
theorem dX6_works_15 : decode cX6_works 15 = .ok (.iadd, 1) := by decide +kernel
theorem dX6_works_16 : decode cX6_works 16 = .ok (.iaload, 1) := by decide +kernel
theorem dX6_works_17 : decode cX6_works 17 = .ok (.istore_n 2, 1) := by decide +kernel
theorem dX6_works_18 : decode cX6_works 18 = .ok (.iload_n 2, 1) := by decide +kernel
theorem dX6_works_19 : decode cX6_works 19 = .ok (.bipush (-9), 2) := by decide +kernel
theorem dX6_works_21 : decode cX6_works 21 = .ok (.if_icmp .eq 36, 3) := by decide +kernel
theorem dX6_works_24 : decode cX6_works 24 = .ok (.aload_n 0, 1) := by decide +kernel
theorem dX6_works_25 : decode cX6_works 25 = .ok (.getfield 7, 3) := by decide +kernel
theorem dX6_works_28 : decode cX6_works 28 = .ok (.aload_n 0, 1) := by decide +kernel
theorem dX6_works_29 : decode cX6_works 29 = .ok (.iload_n 2, 1) := by decide +kernel
theorem dX6_works_30 : decode cX6_works 30 = .ok (.invokevirtual 74, 3) := by decide +kernel
theorem dX6_works_33 : decode cX6_works 33 = .ok (.iconst 5, 1) := by decide +kernel
theorem dX6_works_34 : decode cX6_works 34 = .ok (.iadd, 1) := by decide +kernel
theorem dX6_works_35 : decode cX6_works 35 = .ok (.dup2, 1) := by decide +kernel
theorem dX6_works_36 : decode cX6_works 36 = .ok (.iaload, 1) := by decide +kernel
theorem dX6_works_37 : decode cX6_works 37 = .ok (.iconst 1, 1) := by decide +kernel
theorem dX6_works_38 : decode cX6_works 38 = .ok (.isub, 1) := by decide +kernel
theorem dX6_works_39 : decode cX6_works 39 = .ok (.iastore, 1) := by decide +kernel
theorem dX6_works_40 : decode cX6_works 40 = .ok (.aload_n 0, 1) := by decide +kernel
theorem dX6_works_41 : decode cX6_works 41 = .ok (.getfield 7, 3) := by decide +kernel
theorem dX6_works_44 : decode cX6_works 44 = .ok (.aload_n 0, 1) := by decide +kernel
theorem dX6_works_45 : decode cX6_works 45 = .ok (.iload_n 2, 1) := by decide +kernel
theorem dX6_works_46 : decode cX6_works 46 = .ok (.invokevirtual 74, 3) := by decide +kernel
theorem dX6_works_49 : decode cX6_works 49 = .ok (.bipush 6, 2) := by decide +kernel
theorem dX6_works_51 : decode cX6_works 51 = .ok (.iadd, 1) := by decide +kernel
theorem dX6_works_52 : decode cX6_works 52 = .ok (.dup2, 1) := by decide +kernel
theorem dX6_works_53 : decode cX6_works 53 = .ok (.iaload, 1) := by decide +kernel
theorem dX6_works_54 : decode cX6_works 54 = .ok (.iconst 1, 1) := by decide +kernel
theorem dX6_works_55 : decode cX6_works 55 = .ok (.iadd, 1) := by decide +kernel
theorem dX6_works_56 : decode cX6_works 56 = .ok (.iastore, 1) := by decide +kernel
theorem dX6_works_57 : decode cX6_works 57 = .ok (.aload_n 0, 1) := by decide +kernel
theorem dX6_works_58 : decode cX6_works 58 = .ok (.getfield 7, 3) := by decide +kernel
theorem dX6_works_61 : decode cX6_works 61 = .ok (.sipush 591, 3) := by decide +kernel
theorem dX6_works_64 : decode cX6_works 64 = .ok (.iload_n 1, 1) := by decide +kernel
theorem dX6_works_65 : decode cX6_works 65 = .ok (.iadd, 1) := by decide +kernel
theorem dX6_works_66 : decode cX6_works 66 = .ok (.iaload, 1) := by decide +kernel
theorem dX6_works_67 : decode cX6_works 67 = .ok (.istore_n 3, 1) := by decide +kernel
theorem dX6_works_68 : decode cX6_works 68 = .ok (.iload_n 3, 1) := by decide +kernel
theorem dX6_works_69 : decode cX6_works 69 = .ok (.bipush (-9), 2) := by decide +kernel
theorem dX6_works_71 : decode cX6_works 71 = .ok (.if_icmp .eq 53, 3) := by decide +kernel
theorem dX6_works_74 : decode cX6_works 74 = .ok (.aload_n 0, 1) := by decide +kernel
theorem dX6_works_75 : decode cX6_works 75 = .ok (.getfield 7, 3) := by decide +kernel
theorem dX6_works_78 : decode cX6_works 78 = .ok (.aload_n 0, 1) := by decide +kernel
theorem dX6_works_79 : decode cX6_works 79 = .ok (.iload_n 3, 1) := by decide +kernel
theorem dX6_works_80 : decode cX6_works 80 = .ok (.invokevirtual 74, 3) := by decide +kernel
theorem dX6_works_83 : decode cX6_works 83 = .ok (.bipush 7, 2) := by decide +kernel
theorem dX6_works_85 : decode cX6_works 85 = .ok (.iadd, 1) := by decide +kernel
theorem dX6_works_86 : decode cX6_works 86 = .ok (.iaload, 1) := by decide +kernel
theorem dX6_works_87 : decode cX6_works 87 = .ok (.iconst 2, 1) := by decide +kernel
theorem dX6_works_88 : decode cX6_works 88 = .ok (.if_icmp .ne 36, 3) := by decide +kernel
theorem dX6_works_91 : decode cX6_works 91 = .ok (.aload_n 0, 1) := by decide +kernel
theorem dX6_works_92 : decode cX6_works 92 = .ok (.getfield 7, 3) := by decide +kernel
theorem dX6_works_95 : decode cX6_works 95 = .ok (.aload_n 0, 1) := by decide +kernel
theorem dX6_works_96 : decode cX6_works 96 = .ok (.iload_n 3, 1) := by decide +kernel
theorem dX6_works_97 : decode cX6_works 97 = .ok (.invokevirtual 74, 3) := by decide +kernel
theorem dX6_works_100 : decode cX6_works 100 = .ok (.iconst 3, 1) := by decide +kernel
theorem dX6_works_101 : decode cX6_works 101 = .ok (.iadd, 1) := by decide +kernel
theorem dX6_works_102 : decode cX6_works 102 = .ok (.dup2, 1) := by decide +kernel
theorem dX6_works_103 : decode cX6_works 103 = .ok (.iaload, 1) := by decide +kernel
theorem dX6_works_104 : decode cX6_works 104 = .ok (.iconst 1, 1) := by decide +kernel
theorem dX6_works_105 : decode cX6_works 105 = .ok (.isub, 1) := by decide +kernel
theorem dX6_works_106 : decode cX6_works 106 = .ok (.iastore, 1) := by decide +kernel
theorem dX6_works_107 : decode cX6_works 107 = .ok (.aload_n 0, 1) := by decide +kernel
theorem dX6_works_108 : decode cX6_works 108 = .ok (.getfield 7, 3) := by decide +kernel
theorem dX6_works_111 : decode cX6_works 111 = .ok (.aload_n 0, 1) := by decide +kernel
theorem dX6_works_112 : decode cX6_works 112 = .ok (.iload_n 3, 1) := by decide +kernel
theorem dX6_works_113 : decode cX6_works 113 = .ok (.invokevirtual 74, 3) := by decide +kernel
theorem dX6_works_116 : decode cX6_works 116 = .ok (.bipush 6, 2) := by decide +kernel
theorem dX6_works_118 : decode cX6_works 118 = .ok (.iadd, 1) := by decide +kernel
theorem dX6_works_119 : decode cX6_works 119 = .ok (.dup2, 1) := by decide +kernel
theorem dX6_works_120 : decode cX6_works 120 = .ok (.iaload, 1) := by decide +kernel
theorem dX6_works_121 : decode cX6_works 121 = .ok (.iconst 1, 1) := by decide +kernel
theorem dX6_works_122 : decode cX6_works 122 = .ok (.iadd, 1) := by decide +kernel
theorem dX6_works_123 : decode cX6_works 123 = .ok (.iastore, 1) := by decide +kernel
theorem dX6_works_124 : decode cX6_works 124 = .ok (.iinc 1 1, 3) := by decide +kernel
theorem dX6_works_127 : decode cX6_works 127 = .ok (.goto (-125), 3) := by decide +kernel
theorem dX6_works_130 : decode cX6_works 130 = .ok (.return_, 1) := by decide +kernel
def bfX6_works_124  (K2 : Int32 × (MS) → Option (MS)) (x1 : Int32) (S : MS) : Option (MS) :=
  K2 ((x1 + (1 : Int32)), S)
def bfX6_works_57  (K2 : Int32 × (MS) → Option (MS)) (x1 : Int32) (S : MS) : Option (MS) :=
  (if okI ((591 : Int32) + x1) 5130 then nm ((S.1 (((591 : Int32) + x1)).toNatClampNeg)) fun v12 => (if v12 = (-9 : Int32) then bfX6_works_124  K2 x1 S else ob (fX6_slot v12 S) fun u13 => (if okI (u13 + (7 : Int32)) 5130 then (if (S.1 ((u13 + (7 : Int32))).toNatClampNeg) = (2 : Int32) then ob (fX6_slot v12 S) fun u14 => (if okI (u14 + (3 : Int32)) 5130 then (if okI (u14 + (3 : Int32)) 5130 then nm (upd S.1 ((u14 + (3 : Int32))).toNatClampNeg ((S.1 ((u14 + (3 : Int32))).toNatClampNeg) - (1 : Int32)), S.2) fun S15 => ob (fX6_slot v12 S15) fun u16 => (if okI (u16 + (6 : Int32)) 5130 then (if okI (u16 + (6 : Int32)) 5130 then nm (upd S15.1 ((u16 + (6 : Int32))).toNatClampNeg ((S15.1 ((u16 + (6 : Int32))).toNatClampNeg) + (1 : Int32)), S15.2) fun S17 => bfX6_works_124  K2 x1 S17 else none) else none) else none) else none) else bfX6_works_124  K2 x1 S) else none)) else none)
def bfX6_works_2  (K2 : Int32 × (MS) → Option (MS)) (x : Int32 × (MS)) : Option (MS) :=
  match x with
  | (x1, S) => (if (4 : Int32) ≤ x1 then some S else (if okI ((595 : Int32) + x1) 5130 then nm ((S.1 (((595 : Int32) + x1)).toNatClampNeg)) fun v18 => (if v18 = (-9 : Int32) then bfX6_works_57  K2 x1 S else ob (fX6_slot v18 S) fun u19 => (if okI (u19 + (5 : Int32)) 5130 then (if okI (u19 + (5 : Int32)) 5130 then nm (upd S.1 ((u19 + (5 : Int32))).toNatClampNeg ((S.1 ((u19 + (5 : Int32))).toNatClampNeg) - (1 : Int32)), S.2) fun S20 => ob (fX6_slot v18 S20) fun u21 => (if okI (u21 + (6 : Int32)) 5130 then (if okI (u21 + (6 : Int32)) 5130 then nm (upd S20.1 ((u21 + (6 : Int32))).toNatClampNeg ((S20.1 ((u21 + (6 : Int32))).toNatClampNeg) + (1 : Int32)), S20.2) fun S22 => bfX6_works_57  K2 x1 S22 else none) else none) else none) else none)) else none))
def fX6_works  (S : MS) : Option (MS) :=
  iter (bfX6_works_2) FU ((0 : Int32), S)
set_option maxHeartbeats 4000000 in
set_option maxRecDepth 100000 in
theorem kX6_works (l : Launch) (D : va_G) (cI cS : ClassId) (aM : Nat → Nat)  (S : MS) {q : MS} (h : fX6_works  S = some q) : Mc l D (tyL cI cS) false yX6_works cX6_works 4 none 2 [.ref (aM 0)] (wM cI aM S) none (wM cI aM q) := by
  refine Mc_of RX6 (by decide +kernel) rfl wc_X6_works (Nat.le_of_ble_eq_true rfl) ?_
  intro p e s m args below meth c A Q ls C hA hz hP hD hS hl RET
  have RETh : ∀ {pc : Nat} {ls : Array Slot} {H : Heap} {locs : List Loc} {S1 : MS}, decode cX6_works pc = .ok (.return_, 1) → some S1 = some q → va_P D vwCl (wM cI aM S1) H → va_D A (wM cI aM S1) → va_S A s.heap H locs → W p l e (rmL 2) s m args below meth c H locs 0 0 Q (F0 m pc ls []) := by
    intro pc ls H locs S1 hd h hP hD hS; cases h; exact RET (x_vret C hd) hP hD hS
  have B124 : ∀ (K2 : Int32 × (MS) → Option (MS)) (ih2 : ∀ x, K2 x = some q → (match x with | (x1, S) => ∀ (H : Heap) (locs : List Loc) (ls : Array Slot), va_P D vwCl (wM cI aM S) H → va_D A (wM cI aM S) → va_S A s.heap H locs → lv_has ls 4 [(0, .ref (aM 0)), (1, .int x1)] → W p l e (rmL 2) s m args below meth c H locs 0 0 Q (F0 m 2 ls []))) (x1 : Int32) (S : MS), bfX6_works_124 K2 x1 S = some q → ∀ (H : Heap) (locs : List Loc) (ls : Array Slot), va_P D vwCl (wM cI aM S) H → va_D A (wM cI aM S) → va_S A s.heap H locs → lv_has ls 4 [(0, .ref (aM 0)), (1, .int x1)] → W p l e (rmL 2) s m args below meth c H locs 0 0 Q (F0 m 124 ls []) := by
    intro K2 ih2 x1 S h H locs ls hP hD hS hl
    refine x_iinc (v := (x1 + (1 : Int32))) (lv' := [(1, .int (x1 + (1 : Int32))), (0, .ref (aM 0))]) C dX6_works_124 hl (k := 1) rfl rfl (by decide) rfl (fun ls hl => ?_)
    refine x_goto (tgt := 2) C dX6_works_127 (by decide) ?_
    exact ih2 _ h _ _ _ hP hD hS (lv_sub hl [1, 0] rfl)
  have B57 : ∀ (K2 : Int32 × (MS) → Option (MS)) (ih2 : ∀ x, K2 x = some q → (match x with | (x1, S) => ∀ (H : Heap) (locs : List Loc) (ls : Array Slot), va_P D vwCl (wM cI aM S) H → va_D A (wM cI aM S) → va_S A s.heap H locs → lv_has ls 4 [(0, .ref (aM 0)), (1, .int x1)] → W p l e (rmL 2) s m args below meth c H locs 0 0 Q (F0 m 2 ls []))) (x1 : Int32) (S : MS), bfX6_works_57 K2 x1 S = some q → ∀ (H : Heap) (locs : List Loc) (ls : Array Slot), va_P D vwCl (wM cI aM S) H → va_D A (wM cI aM S) → va_S A s.heap H locs → lv_has ls 4 [(0, .ref (aM 0)), (1, .int x1)] → W p l e (rmL 2) s m args below meth c H locs 0 0 Q (F0 m 57 ls []) := by
    intro K2 ih2 x1 S h H locs ls hP hD hS hl
    refine x_aload_n C dX6_works_57 rfl hl 0 rfl ?_
    refine x_get C inX6 hP 0 rfl rfl 0 (by decide) wf_X6_7 rfl dX6_works_58 ?_
    refine x_sipush (v := (591 : Int32)) C dX6_works_61 (by decide) ?_
    refine x_iload_n C dX6_works_64 rfl hl 1 rfl ?_
    refine x_iadd C dX6_works_65 ?_
    refine x_iald C h hP 1 rfl (t0 := 0) rfl dX6_works_66 (fun h => ?_)
    refine x_nmi h (fun v12 h => ?_)
    refine x_istore_n (lv' := [(3, .int v12), (0, .ref (aM 0)), (1, .int x1)]) C dX6_works_67 rfl hl (by decide) rfl (fun ls hl => ?_)
    refine x_iload_n C dX6_works_68 rfl hl 0 rfl ?_
    refine x_bipush (v := (-9 : Int32)) C dX6_works_69 (by decide) ?_
    refine x_icmp_eq (tgt := 124) C h dX6_works_71 (by decide) (fun h => ?_) (fun h => ?_)
    · exact B124 K2 ih2 _ _ h _ _ _ hP hD hS (lv_sub hl [1, 2] rfl)
    · refine x_aload_n C dX6_works_74 rfl hl 1 rfl ?_
      refine x_get C inX6 hP 0 rfl rfl 0 (by decide) wf_X6_7 rfl dX6_works_75 ?_
      refine x_aload_n C dX6_works_78 rfl hl 1 rfl ?_
      refine x_iload_n C dX6_works_79 rfl hl 0 rfl ?_
      obtain ⟨u13, hu13, h⟩ := ob_some h
      refine x_callV (As := [.int _]) (n := 1) C (kX6_slot l D cI cS aM _ _ hu13) (fun hh => nomatch hh) wm_X6_74 wi_X6_slot we_X6_slot wz_X6 wc_X6_slot (by decide +kernel) rfl hP hD hS hA 0 3 rfl rfl rfl hl.1 dX6_works_80 rfl (Nat.le_of_ble_eq_true rfl) ⟨Nat.le_of_ble_eq_true rfl, Nat.le_of_ble_eq_true rfl⟩ ⟨Nat.zero_le _, Nat.zero_le _⟩ (fun H locs hP hD hS => ?_)
      refine x_bipush (v := (7 : Int32)) C dX6_works_83 (by decide) ?_
      refine x_iadd C dX6_works_85 ?_
      refine x_iald C h hP 1 rfl (t0 := 0) rfl dX6_works_86 (fun h => ?_)
      refine x_iconst (v := (2 : Int32)) C dX6_works_87 (by decide) ?_
      refine x_icmp_ne (tgt := 124) C h dX6_works_88 (by decide) (fun h => ?_) (fun h => ?_)
      · exact B124 K2 ih2 _ _ h _ _ _ hP hD hS (lv_sub hl [1, 2] rfl)
      · refine x_aload_n C dX6_works_91 rfl hl 1 rfl ?_
        refine x_get C inX6 hP 0 rfl rfl 0 (by decide) wf_X6_7 rfl dX6_works_92 ?_
        refine x_aload_n C dX6_works_95 rfl hl 1 rfl ?_
        refine x_iload_n C dX6_works_96 rfl hl 0 rfl ?_
        obtain ⟨u14, hu14, h⟩ := ob_some h
        refine x_callV (As := [.int _]) (n := 1) C (kX6_slot l D cI cS aM _ _ hu14) (fun hh => nomatch hh) wm_X6_74 wi_X6_slot we_X6_slot wz_X6 wc_X6_slot (by decide +kernel) rfl hP hD hS hA 0 3 rfl rfl rfl hl.1 dX6_works_97 rfl (Nat.le_of_ble_eq_true rfl) ⟨Nat.le_of_ble_eq_true rfl, Nat.le_of_ble_eq_true rfl⟩ ⟨Nat.zero_le _, Nat.zero_le _⟩ (fun H locs hP hD hS => ?_)
        refine x_iconst (v := (3 : Int32)) C dX6_works_100 (by decide) ?_
        refine x_iadd C dX6_works_101 ?_
        refine x_dup2 C dX6_works_102 rfl rfl ?_
        refine x_iald C h hP 1 rfl (t0 := 0) rfl dX6_works_103 (fun h => ?_)
        refine x_iconst (v := (1 : Int32)) C dX6_works_104 (by decide) ?_
        refine x_isub C dX6_works_105 ?_
        refine x_iastM (wM cI aM) C h hP hD hS 1 rfl (t0 := 0) rfl rfl dX6_works_106 (fun S15 h H locs hP hD hS => ?_)
        refine x_aload_n C dX6_works_107 rfl hl 1 rfl ?_
        refine x_get C inX6 hP 0 rfl rfl 0 (by decide) wf_X6_7 rfl dX6_works_108 ?_
        refine x_aload_n C dX6_works_111 rfl hl 1 rfl ?_
        refine x_iload_n C dX6_works_112 rfl hl 0 rfl ?_
        obtain ⟨u16, hu16, h⟩ := ob_some h
        refine x_callV (As := [.int _]) (n := 1) C (kX6_slot l D cI cS aM _ _ hu16) (fun hh => nomatch hh) wm_X6_74 wi_X6_slot we_X6_slot wz_X6 wc_X6_slot (by decide +kernel) rfl hP hD hS hA 0 3 rfl rfl rfl hl.1 dX6_works_113 rfl (Nat.le_of_ble_eq_true rfl) ⟨Nat.le_of_ble_eq_true rfl, Nat.le_of_ble_eq_true rfl⟩ ⟨Nat.zero_le _, Nat.zero_le _⟩ (fun H locs hP hD hS => ?_)
        refine x_bipush (v := (6 : Int32)) C dX6_works_116 (by decide) ?_
        refine x_iadd C dX6_works_118 ?_
        refine x_dup2 C dX6_works_119 rfl rfl ?_
        refine x_iald C h hP 1 rfl (t0 := 0) rfl dX6_works_120 (fun h => ?_)
        refine x_iconst (v := (1 : Int32)) C dX6_works_121 (by decide) ?_
        refine x_iadd C dX6_works_122 ?_
        refine x_iastM (wM cI aM) C h hP hD hS 1 rfl (t0 := 0) rfl rfl dX6_works_123 (fun S17 h H locs hP hD hS => ?_)
        exact B124 K2 ih2 _ _ h _ _ _ hP hD hS (lv_sub hl [1, 2] rfl)
  have B2 : ∀ (n : Nat) (x : Int32 × (MS)), iter (bfX6_works_2) n x = some q → (match x with | (x1, S) => ∀ (H : Heap) (locs : List Loc) (ls : Array Slot), va_P D vwCl (wM cI aM S) H → va_D A (wM cI aM S) → va_S A s.heap H locs → lv_has ls 4 [(0, .ref (aM 0)), (1, .int x1)] → W p l e (rmL 2) s m args below meth c H locs 0 0 Q (F0 m 2 ls [])) := by
    refine iter_ind (fun x : Int32 × (MS) => (match x with | (x1, S) => ∀ (H : Heap) (locs : List Loc) (ls : Array Slot), va_P D vwCl (wM cI aM S) H → va_D A (wM cI aM S) → va_S A s.heap H locs → lv_has ls 4 [(0, .ref (aM 0)), (1, .int x1)] → W p l e (rmL 2) s m args below meth c H locs 0 0 Q (F0 m 2 ls []))) ?_
    intro K2 ih2 x h
    obtain ⟨x1, S⟩ := x
    intro H locs ls hP hD hS hl
    refine x_iload_n C dX6_works_2 rfl hl 1 rfl ?_
    refine x_iconst (v := (4 : Int32)) C dX6_works_3 (by decide) ?_
    refine x_icmp_ge (tgt := 130) C h dX6_works_4 (by decide) (fun h => ?_) (fun h => ?_)
    · exact RETh dX6_works_130 h hP hD hS
    · refine x_aload_n C dX6_works_7 rfl hl 0 rfl ?_
      refine x_get C inX6 hP 0 rfl rfl 0 (by decide) wf_X6_7 rfl dX6_works_8 ?_
      refine x_sipush (v := (595 : Int32)) C dX6_works_11 (by decide) ?_
      refine x_iload_n C dX6_works_14 rfl hl 1 rfl ?_
      refine x_iadd C dX6_works_15 ?_
      refine x_iald C h hP 1 rfl (t0 := 0) rfl dX6_works_16 (fun h => ?_)
      refine x_nmi h (fun v18 h => ?_)
      refine x_istore_n (lv' := [(2, .int v18), (0, .ref (aM 0)), (1, .int x1)]) C dX6_works_17 rfl hl (by decide) rfl (fun ls hl => ?_)
      refine x_iload_n C dX6_works_18 rfl hl 0 rfl ?_
      refine x_bipush (v := (-9 : Int32)) C dX6_works_19 (by decide) ?_
      refine x_icmp_eq (tgt := 57) C h dX6_works_21 (by decide) (fun h => ?_) (fun h => ?_)
      · exact B57 K2 ih2 _ _ h _ _ _ hP hD hS (lv_sub hl [1, 2] rfl)
      · refine x_aload_n C dX6_works_24 rfl hl 1 rfl ?_
        refine x_get C inX6 hP 0 rfl rfl 0 (by decide) wf_X6_7 rfl dX6_works_25 ?_
        refine x_aload_n C dX6_works_28 rfl hl 1 rfl ?_
        refine x_iload_n C dX6_works_29 rfl hl 0 rfl ?_
        obtain ⟨u19, hu19, h⟩ := ob_some h
        refine x_callV (As := [.int _]) (n := 1) C (kX6_slot l D cI cS aM _ _ hu19) (fun hh => nomatch hh) wm_X6_74 wi_X6_slot we_X6_slot wz_X6 wc_X6_slot (by decide +kernel) rfl hP hD hS hA 0 3 rfl rfl rfl hl.1 dX6_works_30 rfl (Nat.le_of_ble_eq_true rfl) ⟨Nat.le_of_ble_eq_true rfl, Nat.le_of_ble_eq_true rfl⟩ ⟨Nat.zero_le _, Nat.zero_le _⟩ (fun H locs hP hD hS => ?_)
        refine x_iconst (v := (5 : Int32)) C dX6_works_33 (by decide) ?_
        refine x_iadd C dX6_works_34 ?_
        refine x_dup2 C dX6_works_35 rfl rfl ?_
        refine x_iald C h hP 1 rfl (t0 := 0) rfl dX6_works_36 (fun h => ?_)
        refine x_iconst (v := (1 : Int32)) C dX6_works_37 (by decide) ?_
        refine x_isub C dX6_works_38 ?_
        refine x_iastM (wM cI aM) C h hP hD hS 1 rfl (t0 := 0) rfl rfl dX6_works_39 (fun S20 h H locs hP hD hS => ?_)
        refine x_aload_n C dX6_works_40 rfl hl 1 rfl ?_
        refine x_get C inX6 hP 0 rfl rfl 0 (by decide) wf_X6_7 rfl dX6_works_41 ?_
        refine x_aload_n C dX6_works_44 rfl hl 1 rfl ?_
        refine x_iload_n C dX6_works_45 rfl hl 0 rfl ?_
        obtain ⟨u21, hu21, h⟩ := ob_some h
        refine x_callV (As := [.int _]) (n := 1) C (kX6_slot l D cI cS aM _ _ hu21) (fun hh => nomatch hh) wm_X6_74 wi_X6_slot we_X6_slot wz_X6 wc_X6_slot (by decide +kernel) rfl hP hD hS hA 0 3 rfl rfl rfl hl.1 dX6_works_46 rfl (Nat.le_of_ble_eq_true rfl) ⟨Nat.le_of_ble_eq_true rfl, Nat.le_of_ble_eq_true rfl⟩ ⟨Nat.zero_le _, Nat.zero_le _⟩ (fun H locs hP hD hS => ?_)
        refine x_bipush (v := (6 : Int32)) C dX6_works_49 (by decide) ?_
        refine x_iadd C dX6_works_51 ?_
        refine x_dup2 C dX6_works_52 rfl rfl ?_
        refine x_iald C h hP 1 rfl (t0 := 0) rfl dX6_works_53 (fun h => ?_)
        refine x_iconst (v := (1 : Int32)) C dX6_works_54 (by decide) ?_
        refine x_iadd C dX6_works_55 ?_
        refine x_iastM (wM cI aM) C h hP hD hS 1 rfl (t0 := 0) rfl rfl dX6_works_56 (fun S22 h H locs hP hD hS => ?_)
        exact B57 K2 ih2 _ _ h _ _ _ hP hD hS (lv_sub hl [1, 2] rfl)
  refine x_iconst (v := (0 : Int32)) C dX6_works_0 (by decide) ?_
  refine x_istore_n (lv' := [(1, .int (0 : Int32)), (0, .ref (aM 0))]) C dX6_works_1 rfl hl (by decide) rfl (fun ls hl => ?_)
  exact B2 FU _ h _ _ _ hP hD hS (lv_sub hl [1, 0] rfl)
theorem dX6_ticks_0 : decode cX6_ticks 0 = .ok (.aload_n 0, 1) := by decide +kernel
theorem dX6_ticks_1 : decode cX6_ticks 1 = .ok (.aload_n 0, 1) := by decide +kernel
theorem dX6_ticks_2 : decode cX6_ticks 2 = .ok (.getfield 7, 3) := by decide +kernel
theorem dX6_ticks_5 : decode cX6_ticks 5 = .ok (.sipush 182, 3) := by decide +kernel
theorem dX6_ticks_8 : decode cX6_ticks 8 = .ok (.iaload, 1) := by decide +kernel
theorem dX6_ticks_9 : decode cX6_ticks 9 = .ok (.putfield 67, 3) := by decide +kernel
theorem dX6_ticks_12 : decode cX6_ticks 12 = .ok (.aload_n 0, 1) := by decide +kernel
theorem dX6_ticks_13 : decode cX6_ticks 13 = .ok (.iconst 0, 1) := by decide +kernel
theorem dX6_ticks_14 : decode cX6_ticks 14 = .ok (.putfield 118, 3) := by decide +kernel
theorem dX6_ticks_17 : decode cX6_ticks 17 = .ok (.aload_n 0, 1) := by decide +kernel
theorem dX6_ticks_18 : decode cX6_ticks 18 = .ok (.iconst 0, 1) := by decide +kernel
theorem dX6_ticks_19 : decode cX6_ticks 19 = .ok (.putfield 90, 3) := by decide +kernel
theorem dX6_ticks_22 : decode cX6_ticks 22 = .ok (.aload_n 0, 1) := by decide +kernel
theorem dX6_ticks_23 : decode cX6_ticks 23 = .ok (.iconst 0, 1) := by decide +kernel
theorem dX6_ticks_24 : decode cX6_ticks 24 = .ok (.putfield 77, 3) := by decide +kernel
theorem dX6_ticks_27 : decode cX6_ticks 27 = .ok (.iconst 0, 1) := by decide +kernel
theorem dX6_ticks_28 : decode cX6_ticks 28 = .ok (.istore_n 1, 1) := by decide +kernel
theorem dX6_ticks_29 : decode cX6_ticks 29 = .ok (.iload_n 1, 1) := by decide +kernel
theorem dX6_ticks_30 : decode cX6_ticks 30 = .ok (.bipush 6, 2) := by decide +kernel
theorem dX6_ticks_32 : decode cX6_ticks 32 = .ok (.if_icmp .ge 39, 3) := by decide +kernel
theorem dX6_ticks_35 : decode cX6_ticks 35 = .ok (.iconst 0, 1) := by decide +kernel
theorem dX6_ticks_36 : decode cX6_ticks 36 = .ok (.istore_n 2, 1) := by decide +kernel
theorem dX6_ticks_37 : decode cX6_ticks 37 = .ok (.aload_n 0, 1) := by decide +kernel
theorem dX6_ticks_38 : decode cX6_ticks 38 = .ok (.iload_n 1, 1) := by decide +kernel
theorem dX6_ticks_39 : decode cX6_ticks 39 = .ok (.invokevirtual 127, 3) := by decide +kernel
theorem dX6_ticks_42 : decode cX6_ticks 42 = .ok (.ifCond .eq 23, 3) := by decide +kernel
theorem dX6_ticks_45 : decode cX6_ticks 45 = .ok (.iload_n 2, 1) := by decide +kernel
theorem dX6_ticks_46 : decode cX6_ticks 46 = .ok (.aload_n 0, 1) := by decide +kernel
theorem dX6_ticks_47 : decode cX6_ticks 47 = .ok (.iload_n 1, 1) := by decide +kernel
theorem dX6_ticks_48 : decode cX6_ticks 48 = .ok (.invokevirtual 130, 3) := by decide +kernel
theorem dX6_ticks_51 : decode cX6_ticks 51 = .ok (.if_icmp .ge 14, 3) := by decide +kernel
theorem dX6_ticks_54 : decode cX6_ticks 54 = .ok (.aload_n 0, 1) := by decide +kernel
theorem dX6_ticks_55 : decode cX6_ticks 55 = .ok (.iload_n 1, 1) := by decide +kernel
theorem dX6_ticks_56 : decode cX6_ticks 56 = .ok (.invokevirtual 133, 3) := by decide +kernel
theorem dX6_ticks_59 : decode cX6_ticks 59 = .ok (.iinc 2 1, 3) := by decide +kernel
theorem dX6_ticks_62 : decode cX6_ticks 62 = .ok (.goto (-25), 3) := by decide +kernel
theorem dX6_ticks_65 : decode cX6_ticks 65 = .ok (.iinc 1 1, 3) := by decide +kernel
theorem dX6_ticks_68 : decode cX6_ticks 68 = .ok (.goto (-39), 3) := by decide +kernel
theorem dX6_ticks_71 : decode cX6_ticks 71 = .ok (.aload_n 0, 1) := by decide +kernel
theorem dX6_ticks_72 : decode cX6_ticks 72 = .ok (.iconst 1, 1) := by decide +kernel
theorem dX6_ticks_73 : decode cX6_ticks 73 = .ok (.invokevirtual 136, 3) := by decide +kernel
theorem dX6_ticks_76 : decode cX6_ticks 76 = .ok (.istore_n 1, 1) := by decide +kernel
theorem dX6_ticks_77 : decode cX6_ticks 77 = .ok (.iconst 0, 1) := by decide +kernel
theorem dX6_ticks_78 : decode cX6_ticks 78 = .ok (.istore_n 2, 1) := by decide +kernel
theorem dX6_ticks_79 : decode cX6_ticks 79 = .ok (.iload_n 2, 1) := by decide +kernel
theorem dX6_ticks_80 : decode cX6_ticks 80 = .ok (.iload_n 1, 1) := by decide +kernel
theorem dX6_ticks_81 : decode cX6_ticks 81 = .ok (.if_icmp .ge 23, 3) := by decide +kernel
theorem dX6_ticks_84 : decode cX6_ticks 84 = .ok (.aload_n 0, 1) := by decide +kernel
theorem dX6_ticks_85 : decode cX6_ticks 85 = .ok (.aload_n 0, 1) := by decide +kernel
theorem dX6_ticks_86 : decode cX6_ticks 86 = .ok (.aload_n 0, 1) := by decide +kernel
theorem dX6_ticks_87 : decode cX6_ticks 87 = .ok (.getfield 22, 3) := by decide +kernel
theorem dX6_ticks_90 : decode cX6_ticks 90 = .ok (.iload_n 2, 1) := by decide +kernel
theorem dX6_ticks_91 : decode cX6_ticks 91 = .ok (.iaload, 1) := by decide +kernel
theorem dX6_ticks_92 : decode cX6_ticks 92 = .ok (.invokevirtual 84, 3) := by decide +kernel
theorem dX6_ticks_95 : decode cX6_ticks 95 = .ok (.invokevirtual 109, 3) := by decide +kernel
theorem dX6_ticks_98 : decode cX6_ticks 98 = .ok (.iinc 2 1, 3) := by decide +kernel
theorem dX6_ticks_101 : decode cX6_ticks 101 = .ok (.goto (-22), 3) := by decide +kernel
theorem dX6_ticks_104 : decode cX6_ticks 104 = .ok (.iconst 0, 1) := by decide +kernel
theorem dX6_ticks_105 : decode cX6_ticks 105 = .ok (.istore_n 2, 1) := by decide +kernel
theorem dX6_ticks_106 : decode cX6_ticks 106 = .ok (.iload_n 2, 1) := by decide +kernel
theorem dX6_ticks_107 : decode cX6_ticks 107 = .ok (.aload_n 0, 1) := by decide +kernel
theorem dX6_ticks_108 : decode cX6_ticks 108 = .ok (.getfield 7, 3) := by decide +kernel
theorem dX6_ticks_111 : decode cX6_ticks 111 = .ok (.sipush 176, 3) := by decide +kernel
theorem dX6_ticks_114 : decode cX6_ticks 114 = .ok (.iaload, 1) := by decide +kernel
theorem dX6_ticks_115 : decode cX6_ticks 115 = .ok (.if_icmp .ge 14, 3) := by decide +kernel
theorem dX6_ticks_118 : decode cX6_ticks 118 = .ok (.aload_n 0, 1) := by decide +kernel
theorem dX6_ticks_119 : decode cX6_ticks 119 = .ok (.iload_n 2, 1) := by decide +kernel
theorem dX6_ticks_120 : decode cX6_ticks 120 = .ok (.invokevirtual 139, 3) := by decide +kernel
theorem dX6_ticks_123 : decode cX6_ticks 123 = .ok (.iinc 2 1, 3) := by decide +kernel
theorem dX6_ticks_126 : decode cX6_ticks 126 = .ok (.goto (-20), 3) := by decide +kernel
theorem dX6_ticks_129 : decode cX6_ticks 129 = .ok (.iconst 0, 1) := by decide +kernel
theorem dX6_ticks_130 : decode cX6_ticks 130 = .ok (.istore_n 2, 1) := by decide +kernel
theorem dX6_ticks_131 : decode cX6_ticks 131 = .ok (.iload_n 2, 1) := by decide +kernel
theorem dX6_ticks_132 : decode cX6_ticks 132 = .ok (.aload_n 0, 1) := by decide +kernel
theorem dX6_ticks_133 : decode cX6_ticks 133 = .ok (.getfield 7, 3) := by decide +kernel
theorem dX6_ticks_136 : decode cX6_ticks 136 = .ok (.sipush 174, 3) := by decide +kernel
theorem dX6_ticks_139 : decode cX6_ticks 139 = .ok (.iaload, 1) := by decide +kernel
theorem dX6_ticks_140 : decode cX6_ticks 140 = .ok (.if_icmp .ge 14, 3) := by decide +kernel
theorem dX6_ticks_143 : decode cX6_ticks 143 = .ok (.aload_n 0, 1) := by decide +kernel
theorem dX6_ticks_144 : decode cX6_ticks 144 = .ok (.iload_n 2, 1) := by decide +kernel
theorem dX6_ticks_145 : decode cX6_ticks 145 = .ok (.invokevirtual 142, 3) := by decide +kernel
theorem dX6_ticks_148 : decode cX6_ticks 148 = .ok (.iinc 2 1, 3) := by decide +kernel
theorem dX6_ticks_151 : decode cX6_ticks 151 = .ok (.goto (-20), 3) := by decide +kernel
theorem dX6_ticks_154 : decode cX6_ticks 154 = .ok (.aload_n 0, 1) := by decide +kernel
theorem dX6_ticks_155 : decode cX6_ticks 155 = .ok (.invokevirtual 145, 3) := by decide +kernel
theorem dX6_ticks_158 : decode cX6_ticks 158 = .ok (.aload_n 0, 1) := by decide +kernel
theorem dX6_ticks_159 : decode cX6_ticks 159 = .ok (.getfield 7, 3) := by decide +kernel
theorem dX6_ticks_162 : decode cX6_ticks 162 = .ok (.sipush 182, 3) := by decide +kernel
theorem dX6_ticks_165 : decode cX6_ticks 165 = .ok (.dup2, 1) := by decide +kernel
theorem dX6_ticks_166 : decode cX6_ticks 166 = .ok (.iaload, 1) := by decide +kernel
theorem dX6_ticks_167 : decode cX6_ticks 167 = .ok (.iconst 1, 1) := by decide +kernel
theorem dX6_ticks_168 : decode cX6_ticks 168 = .ok (.iadd, 1) := by decide +kernel
theorem dX6_ticks_169 : decode cX6_ticks 169 = .ok (.iastore, 1) := by decide +kernel
theorem dX6_ticks_170 : decode cX6_ticks 170 = .ok (.aload_n 0, 1) := by decide +kernel
theorem dX6_ticks_171 : decode cX6_ticks 171 = .ok (.dup, 1) := by decide +kernel
theorem dX6_ticks_172 : decode cX6_ticks 172 = .ok (.getfield 67, 3) := by decide +kernel
theorem dX6_ticks_175 : decode cX6_ticks 175 = .ok (.iconst 1, 1) := by decide +kernel
theorem dX6_ticks_176 : decode cX6_ticks 176 = .ok (.iadd, 1) := by decide +kernel
theorem dX6_ticks_177 : decode cX6_ticks 177 = .ok (.putfield 67, 3) := by decide +kernel
theorem dX6_ticks_180 : decode cX6_ticks 180 = .ok (.iconst 0, 1) := by decide +kernel
theorem dX6_ticks_181 : decode cX6_ticks 181 = .ok (.istore_n 2, 1) := by decide +kernel
theorem dX6_ticks_182 : decode cX6_ticks 182 = .ok (.iload_n 2, 1) := by decide +kernel
theorem dX6_ticks_183 : decode cX6_ticks 183 = .ok (.iconst 4, 1) := by decide +kernel
theorem dX6_ticks_184 : decode cX6_ticks 184 = .ok (.if_icmp .ge 14, 3) := by decide +kernel
theorem dX6_ticks_187 : decode cX6_ticks 187 = .ok (.aload_n 0, 1) := by decide +kernel
theorem dX6_ticks_188 : decode cX6_ticks 188 = .ok (.iload_n 2, 1) := by decide +kernel
theorem dX6_ticks_189 : decode cX6_ticks 189 = .ok (.invokevirtual 148, 3) := by decide +kernel
theorem dX6_ticks_192 : decode cX6_ticks 192 = .ok (.iinc 2 1, 3) := by decide +kernel
theorem dX6_ticks_195 : decode cX6_ticks 195 = .ok (.goto (-13), 3) := by decide +kernel
theorem dX6_ticks_198 : decode cX6_ticks 198 = .ok (.iconst 0, 1) := by decide +kernel
theorem dX6_ticks_199 : decode cX6_ticks 199 = .ok (.istore_n 2, 1) := by decide +kernel
theorem dX6_ticks_200 : decode cX6_ticks 200 = .ok (.iload_n 2, 1) := by decide +kernel
theorem dX6_ticks_201 : decode cX6_ticks 201 = .ok (.iconst 4, 1) := by decide +kernel
theorem dX6_ticks_202 : decode cX6_ticks 202 = .ok (.if_icmp .ge 14, 3) := by decide +kernel
theorem dX6_ticks_205 : decode cX6_ticks 205 = .ok (.aload_n 0, 1) := by decide +kernel
theorem dX6_ticks_206 : decode cX6_ticks 206 = .ok (.iload_n 2, 1) := by decide +kernel
theorem dX6_ticks_207 : decode cX6_ticks 207 = .ok (.invokevirtual 151, 3) := by decide +kernel
theorem dX6_ticks_210 : decode cX6_ticks 210 = .ok (.iinc 2 1, 3) := by decide +kernel
theorem dX6_ticks_213 : decode cX6_ticks 213 = .ok (.goto (-13), 3) := by decide +kernel
theorem dX6_ticks_216 : decode cX6_ticks 216 = .ok (.aload_n 0, 1) := by decide +kernel
theorem dX6_ticks_217 : decode cX6_ticks 217 = .ok (.iconst 0, 1) := by decide +kernel
theorem dX6_ticks_218 : decode cX6_ticks 218 = .ok (.invokevirtual 136, 3) := by decide +kernel
theorem dX6_ticks_221 : decode cX6_ticks 221 = .ok (.istore_n 1, 1) := by decide +kernel
theorem dX6_ticks_222 : decode cX6_ticks 222 = .ok (.iconst 0, 1) := by decide +kernel
theorem dX6_ticks_223 : decode cX6_ticks 223 = .ok (.istore_n 2, 1) := by decide +kernel
theorem dX6_ticks_224 : decode cX6_ticks 224 = .ok (.iload_n 2, 1) := by decide +kernel
theorem dX6_ticks_225 : decode cX6_ticks 225 = .ok (.iload_n 1, 1) := by decide +kernel
theorem dX6_ticks_226 : decode cX6_ticks 226 = .ok (.if_icmp .ge 19, 3) := by decide +kernel
theorem dX6_ticks_229 : decode cX6_ticks 229 = .ok (.aload_n 0, 1) := by decide +kernel
theorem dX6_ticks_230 : decode cX6_ticks 230 = .ok (.aload_n 0, 1) := by decide +kernel
theorem dX6_ticks_231 : decode cX6_ticks 231 = .ok (.getfield 22, 3) := by decide +kernel
theorem dX6_ticks_234 : decode cX6_ticks 234 = .ok (.iload_n 2, 1) := by decide +kernel
theorem dX6_ticks_235 : decode cX6_ticks 235 = .ok (.iaload, 1) := by decide +kernel
theorem dX6_ticks_236 : decode cX6_ticks 236 = .ok (.invokevirtual 154, 3) := by decide +kernel
theorem dX6_ticks_239 : decode cX6_ticks 239 = .ok (.iinc 2 1, 3) := by decide +kernel
theorem dX6_ticks_242 : decode cX6_ticks 242 = .ok (.goto (-18), 3) := by decide +kernel
theorem dX6_ticks_245 : decode cX6_ticks 245 = .ok (.sipush 599, 3) := by decide +kernel
theorem dX6_ticks_248 : decode cX6_ticks 248 = .ok (.iconst 4, 1) := by decide +kernel
theorem dX6_ticks_249 : decode cX6_ticks 249 = .ok (.aload_n 0, 1) := by decide +kernel
theorem dX6_ticks_250 : decode cX6_ticks 250 = .ok (.getfield 67, 3) := by decide +kernel
theorem dX6_ticks_253 : decode cX6_ticks 253 = .ok (.iconst 1, 1) := by decide +kernel
theorem dX6_ticks_254 : decode cX6_ticks 254 = .ok (.isub, 1) := by decide +kernel
theorem dX6_ticks_255 : decode cX6_ticks 255 = .ok (.bipush 64, 2) := by decide +kernel
theorem dX6_ticks_257 : decode cX6_ticks 257 = .ok (.irem, 1) := by decide +kernel
theorem dX6_ticks_258 : decode cX6_ticks 258 = .ok (.imul, 1) := by decide +kernel
theorem dX6_ticks_259 : decode cX6_ticks 259 = .ok (.iadd, 1) := by decide +kernel
theorem dX6_ticks_260 : decode cX6_ticks 260 = .ok (.istore_n 2, 1) := by decide +kernel
theorem dX6_ticks_261 : decode cX6_ticks 261 = .ok (.aload_n 0, 1) := by decide +kernel
theorem dX6_ticks_262 : decode cX6_ticks 262 = .ok (.getfield 7, 3) := by decide +kernel
theorem dX6_ticks_265 : decode cX6_ticks 265 = .ok (.iload_n 2, 1) := by decide +kernel
theorem dX6_ticks_266 : decode cX6_ticks 266 = .ok (.aload_n 0, 1) := by decide +kernel
theorem dX6_ticks_267 : decode cX6_ticks 267 = .ok (.getfield 7, 3) := by decide +kernel
theorem dX6_ticks_270 : decode cX6_ticks 270 = .ok (.sipush 557, 3) := by decide +kernel
theorem dX6_ticks_273 : decode cX6_ticks 273 = .ok (.iaload, 1) := by decide +kernel
theorem dX6_ticks_274 : decode cX6_ticks 274 = .ok (.iastore, 1) := by decide +kernel
theorem dX6_ticks_275 : decode cX6_ticks 275 = .ok (.aload_n 0, 1) := by decide +kernel
theorem dX6_ticks_276 : decode cX6_ticks 276 = .ok (.getfield 7, 3) := by decide +kernel
theorem dX6_ticks_279 : decode cX6_ticks 279 = .ok (.iload_n 2, 1) := by decide +kernel
theorem dX6_ticks_280 : decode cX6_ticks 280 = .ok (.iconst 1, 1) := by decide +kernel
theorem dX6_ticks_281 : decode cX6_ticks 281 = .ok (.iadd, 1) := by decide +kernel
theorem dX6_ticks_282 : decode cX6_ticks 282 = .ok (.aload_n 0, 1) := by decide +kernel
theorem dX6_ticks_283 : decode cX6_ticks 283 = .ok (.getfield 118, 3) := by decide +kernel
theorem dX6_ticks_286 : decode cX6_ticks 286 = .ok (.iastore, 1) := by decide +kernel
theorem dX6_ticks_287 : decode cX6_ticks 287 = .ok (.aload_n 0, 1) := by decide +kernel
theorem dX6_ticks_288 : decode cX6_ticks 288 = .ok (.getfield 7, 3) := by decide +kernel
theorem dX6_ticks_291 : decode cX6_ticks 291 = .ok (.iload_n 2, 1) := by decide +kernel
theorem dX6_ticks_292 : decode cX6_ticks 292 = .ok (.iconst 2, 1) := by decide +kernel
theorem dX6_ticks_293 : decode cX6_ticks 293 = .ok (.iadd, 1) := by decide +kernel
theorem dX6_ticks_294 : decode cX6_ticks 294 = .ok (.aload_n 0, 1) := by decide +kernel
theorem dX6_ticks_295 : decode cX6_ticks 295 = .ok (.getfield 90, 3) := by decide +kernel
theorem dX6_ticks_298 : decode cX6_ticks 298 = .ok (.iastore, 1) := by decide +kernel
theorem dX6_ticks_299 : decode cX6_ticks 299 = .ok (.aload_n 0, 1) := by decide +kernel
theorem dX6_ticks_300 : decode cX6_ticks 300 = .ok (.getfield 7, 3) := by decide +kernel
theorem dX6_ticks_303 : decode cX6_ticks 303 = .ok (.iload_n 2, 1) := by decide +kernel
theorem dX6_ticks_304 : decode cX6_ticks 304 = .ok (.iconst 3, 1) := by decide +kernel
theorem dX6_ticks_305 : decode cX6_ticks 305 = .ok (.iadd, 1) := by decide +kernel
theorem dX6_ticks_306 : decode cX6_ticks 306 = .ok (.aload_n 0, 1) := by decide +kernel
theorem dX6_ticks_307 : decode cX6_ticks 307 = .ok (.getfield 77, 3) := by decide +kernel
theorem dX6_ticks_310 : decode cX6_ticks 310 = .ok (.iastore, 1) := by decide +kernel
theorem dX6_ticks_311 : decode cX6_ticks 311 = .ok (.aload_n 0, 1) := by decide +kernel
theorem dX6_ticks_312 : decode cX6_ticks 312 = .ok (.getfield 7, 3) := by decide +kernel
theorem dX6_ticks_315 : decode cX6_ticks 315 = .ok (.sipush 187, 3) := by decide +kernel
theorem dX6_ticks_318 : decode cX6_ticks 318 = .ok (.aload_n 0, 1) := by decide +kernel
theorem dX6_ticks_319 : decode cX6_ticks 319 = .ok (.getfield 7, 3) := by decide +kernel
theorem dX6_ticks_322 : decode cX6_ticks 322 = .ok (.sipush 557, 3) := by decide +kernel
theorem dX6_ticks_325 : decode cX6_ticks 325 = .ok (.iaload, 1) := by decide +kernel
theorem dX6_ticks_326 : decode cX6_ticks 326 = .ok (.aload_n 0, 1) := by decide +kernel
theorem dX6_ticks_327 : decode cX6_ticks 327 = .ok (.getfield 7, 3) := by decide +kernel
theorem dX6_ticks_330 : decode cX6_ticks 330 = .ok (.sipush 187, 3) := by decide +kernel
theorem dX6_ticks_333 : decode cX6_ticks 333 = .ok (.iaload, 1) := by decide +kernel
theorem dX6_ticks_334 : decode cX6_ticks 334 = .ok (.if_icmp .le 14, 3) := by decide +kernel
theorem dX6_ticks_337 : decode cX6_ticks 337 = .ok (.aload_n 0, 1) := by decide +kernel
theorem dX6_ticks_338 : decode cX6_ticks 338 = .ok (.getfield 7, 3) := by decide +kernel
theorem dX6_ticks_341 : decode cX6_ticks 341 = .ok (.sipush 557, 3) := by decide +kernel
theorem dX6_ticks_344 : decode cX6_ticks 344 = .ok (.iaload, 1) := by decide +kernel
theorem dX6_ticks_345 : decode cX6_ticks 345 = .ok (.goto 11, 3) := by decide +kernel
theorem dX6_ticks_348 : decode cX6_ticks 348 = .ok (.aload_n 0, 1) := by decide +kernel
theorem dX6_ticks_349 : decode cX6_ticks 349 = .ok (.getfield 7, 3) := by decide +kernel
theorem dX6_ticks_352 : decode cX6_ticks 352 = .ok (.sipush 187, 3) := by decide +kernel
theorem dX6_ticks_355 : decode cX6_ticks 355 = .ok (.iaload, 1) := by decide +kernel
theorem dX6_ticks_356 : decode cX6_ticks 356 = .ok (.iastore, 1) := by decide +kernel
theorem dX6_ticks_357 : decode cX6_ticks 357 = .ok (.return_, 1) := by decide +kernel
def bfX6_ticks_356  (s1 : Int32) (s2 : Int32) (S : MS) : Option (MS) :=
  (if okI s1 5130 then nm (upd S.1 (s1).toNatClampNeg s2, S.2) fun S26 => some S26 else none)
def bfX6_ticks_224  (K224 : Int32 × Int32 × (MS) → Option (MS)) (x : Int32 × Int32 × (MS)) : Option (MS) :=
  match x with
  | (x1, x2, S) => (if x1 ≤ x2 then nm (((599 : Int32) + ((4 : Int32) * (((S.2.2 5) - (1 : Int32)) - ((S.2.2 5) - (1 : Int32)) / (64 : Int32) * (64 : Int32))))) fun v27 => (if okI v27 5130 then nm (upd S.1 (v27).toNatClampNeg (S.1 ((557 : Int32)).toNatClampNeg), S.2) fun S28 => (if okI (v27 + (1 : Int32)) 5130 then nm (upd S28.1 ((v27 + (1 : Int32))).toNatClampNeg (S28.2.2 6), S28.2) fun S29 => (if okI (v27 + (2 : Int32)) 5130 then nm (upd S29.1 ((v27 + (2 : Int32))).toNatClampNeg (S29.2.2 7), S29.2) fun S30 => (if okI (v27 + (3 : Int32)) 5130 then nm (upd S30.1 ((v27 + (3 : Int32))).toNatClampNeg (S30.2.2 8), S30.2) fun S31 => (if (S31.1 ((557 : Int32)).toNatClampNeg) ≤ (S31.1 ((187 : Int32)).toNatClampNeg) then bfX6_ticks_356   ((187 : Int32)) ((S31.1 ((187 : Int32)).toNatClampNeg)) S31 else bfX6_ticks_356   ((187 : Int32)) ((S31.1 ((557 : Int32)).toNatClampNeg)) S31) else none) else none) else none) else none) else (if okI x2 16 then ob (fX6_abandons ((S.2.1 (x2).toNatClampNeg)) S) fun u32 => K224 (x1, (x2 + (1 : Int32)), u32) else none))
def bfX6_ticks_200  (K200 : Int32 × (MS) → Option (MS)) (x : Int32 × (MS)) : Option (MS) :=
  match x with
  | (x2, S) => (if (4 : Int32) ≤ x2 then ob (fX6_gathers (0 : Int32) S) fun u33 => iter (bfX6_ticks_224) FU (u33.1, (0 : Int32), u33.2) else ob (fX6_finishesFront x2 S) fun u34 => K200 ((x2 + (1 : Int32)), u34))
def bfX6_ticks_182  (K182 : Int32 × (MS) → Option (MS)) (x : Int32 × (MS)) : Option (MS) :=
  match x with
  | (x2, S) => (if (4 : Int32) ≤ x2 then iter (bfX6_ticks_200) FU ((0 : Int32), S) else ob (fX6_finishesBack x2 S) fun u35 => K182 ((x2 + (1 : Int32)), u35))
def bfX6_ticks_131  (K131 : Int32 × (MS) → Option (MS)) (x : Int32 × (MS)) : Option (MS) :=
  match x with
  | (x2, S) => (if (S.1 ((174 : Int32)).toNatClampNeg) ≤ x2 then ob (fX6_works  S) fun u36 => nm (upd u36.1 ((182 : Int32)).toNatClampNeg ((u36.1 ((182 : Int32)).toNatClampNeg) + (1 : Int32)), u36.2) fun S37 => nm (S37.1, S37.2.1, upd S37.2.2 5 ((S37.2.2 5) + (1 : Int32))) fun S38 => iter (bfX6_ticks_182) FU ((0 : Int32), S38) else ob (fX6_takesFront x2 S) fun u39 => K131 ((x2 + (1 : Int32)), u39))
def bfX6_ticks_106  (K106 : Int32 × (MS) → Option (MS)) (x : Int32 × (MS)) : Option (MS) :=
  match x with
  | (x2, S) => (if (S.1 ((176 : Int32)).toNatClampNeg) ≤ x2 then iter (bfX6_ticks_131) FU ((0 : Int32), S) else ob (fX6_takesBack x2 S) fun u40 => K106 ((x2 + (1 : Int32)), u40))
def bfX6_ticks_79  (K79 : Int32 × Int32 × (MS) → Option (MS)) (x : Int32 × Int32 × (MS)) : Option (MS) :=
  match x with
  | (x1, x2, S) => (if x1 ≤ x2 then iter (bfX6_ticks_106) FU ((0 : Int32), S) else (if okI x2 16 then ob (fX6_placeOf ((S.2.1 (x2).toNatClampNeg)) S) fun u41 => ob (fX6_sends u41 S) fun u42 => K79 (x1, (x2 + (1 : Int32)), u42) else none))
def bfX6_ticks_65  (K29 : Int32 × (MS) → Option (MS)) (x1 : Int32) (S : MS) : Option (MS) :=
  K29 ((x1 + (1 : Int32)), S)
def bfX6_ticks_37  (K29 : Int32 × (MS) → Option (MS)) (K37 : Int32 × Int32 × (MS) → Option (MS)) (x : Int32 × Int32 × (MS)) : Option (MS) :=
  match x with
  | (x1, x2, S) => ob (fX6_isDue x1 S) fun u43 => (if u43 = 0 then bfX6_ticks_65  K29 x1 S else ob (fX6_factorOf x1 S) fun u44 => (if u44 ≤ x2 then bfX6_ticks_65  K29 x1 S else ob (fX6_creates x1 S) fun u45 => K37 (x1, (x2 + (1 : Int32)), u45)))
def bfX6_ticks_29  (K29 : Int32 × (MS) → Option (MS)) (x : Int32 × (MS)) : Option (MS) :=
  match x with
  | (x1, S) => (if (6 : Int32) ≤ x1 then ob (fX6_gathers (1 : Int32) S) fun u46 => iter (bfX6_ticks_79) FU (u46.1, (0 : Int32), u46.2) else iter (bfX6_ticks_37  K29) FU (x1, (0 : Int32), S))
def fX6_ticks  (S : MS) : Option (MS) :=
  nm (S.1, S.2.1, upd S.2.2 5 (S.1 ((182 : Int32)).toNatClampNeg)) fun S47 => nm (S47.1, S47.2.1, upd S47.2.2 6 (0 : Int32)) fun S48 => nm (S48.1, S48.2.1, upd S48.2.2 7 (0 : Int32)) fun S49 => nm (S49.1, S49.2.1, upd S49.2.2 8 (0 : Int32)) fun S50 => iter (bfX6_ticks_29) FU ((0 : Int32), S50)
set_option maxHeartbeats 4000000 in
set_option maxRecDepth 100000 in
theorem kX6_ticks (l : Launch) (D : va_G) (cI cS : ClassId) (aM : Nat → Nat)  (S : MS) {q : MS} (h : fX6_ticks  S = some q) : Mc l D (tyL cI cS) false yX6_ticks cX6_ticks 3 none 7 [.ref (aM 0)] (wM cI aM S) none (wM cI aM q) := by
  refine Mc_of RX6 (by decide +kernel) rfl wc_X6_ticks (Nat.le_of_ble_eq_true rfl) ?_
  intro p e s m args below meth c A Q ls C hA hz hP hD hS hl RET
  have RETh : ∀ {pc : Nat} {ls : Array Slot} {H : Heap} {locs : List Loc} {S1 : MS}, decode cX6_ticks pc = .ok (.return_, 1) → some S1 = some q → va_P D vwCl (wM cI aM S1) H → va_D A (wM cI aM S1) → va_S A s.heap H locs → W p l e (rmL 7) s m args below meth c H locs 0 0 Q (F0 m pc ls []) := by
    intro pc ls H locs S1 hd h hP hD hS; cases h; exact RET (x_vret C hd) hP hD hS
  have B356 : ∀ (s1 : Int32) (s2 : Int32) (S : MS), bfX6_ticks_356 s1 s2 S = some q → ∀ (H : Heap) (locs : List Loc) (ls : Array Slot), va_P D vwCl (wM cI aM S) H → va_D A (wM cI aM S) → va_S A s.heap H locs → lv_has ls 3 [] → W p l e (rmL 7) s m args below meth c H locs 0 0 Q (F0 m 356 ls [.int s2, .int s1, .ref (aM 1)]) := by
    intro s1 s2 S h H locs ls hP hD hS hl
    refine x_iastM (wM cI aM) C h hP hD hS 1 rfl (t0 := 0) rfl rfl dX6_ticks_356 (fun S26 h H locs hP hD hS => ?_)
    exact RETh dX6_ticks_357 h hP hD hS
  have B224 : ∀ (n : Nat) (x : Int32 × Int32 × (MS)), iter (bfX6_ticks_224) n x = some q → (match x with | (x1, x2, S) => ∀ (H : Heap) (locs : List Loc) (ls : Array Slot), va_P D vwCl (wM cI aM S) H → va_D A (wM cI aM S) → va_S A s.heap H locs → lv_has ls 3 [(0, .ref (aM 0)), (1, .int x1), (2, .int x2)] → W p l e (rmL 7) s m args below meth c H locs 0 0 Q (F0 m 224 ls [])) := by
    refine iter_ind (fun x : Int32 × Int32 × (MS) => (match x with | (x1, x2, S) => ∀ (H : Heap) (locs : List Loc) (ls : Array Slot), va_P D vwCl (wM cI aM S) H → va_D A (wM cI aM S) → va_S A s.heap H locs → lv_has ls 3 [(0, .ref (aM 0)), (1, .int x1), (2, .int x2)] → W p l e (rmL 7) s m args below meth c H locs 0 0 Q (F0 m 224 ls []))) ?_
    intro K224 ih224 x h
    obtain ⟨x1, x2, S⟩ := x
    intro H locs ls hP hD hS hl
    refine x_iload_n C dX6_ticks_224 rfl hl 2 rfl ?_
    refine x_iload_n C dX6_ticks_225 rfl hl 1 rfl ?_
    refine x_icmp_ge (tgt := 245) C h dX6_ticks_226 (by decide) (fun h => ?_) (fun h => ?_)
    · refine x_sipush (v := (599 : Int32)) C dX6_ticks_245 (by decide) ?_
      refine x_iconst (v := (4 : Int32)) C dX6_ticks_248 (by decide) ?_
      refine x_aload_n C dX6_ticks_249 rfl hl 0 rfl ?_
      refine x_get C inX6 hP 0 rfl rfl 5 (by decide) wf_X6_67 rfl dX6_ticks_250 ?_
      refine x_iconst (v := (1 : Int32)) C dX6_ticks_253 (by decide) ?_
      refine x_isub C dX6_ticks_254 ?_
      refine x_bipush (v := (64 : Int32)) C dX6_ticks_255 (by decide) ?_
      refine x_iremK C (by decide) dX6_ticks_257 ?_
      refine x_imul C dX6_ticks_258 ?_
      refine x_iadd C dX6_ticks_259 ?_
      refine x_nmi h (fun v27 h => ?_)
      refine x_istore_n (lv' := [(2, .int v27), (0, .ref (aM 0)), (1, .int x1)]) C dX6_ticks_260 rfl hl (by decide) rfl (fun ls hl => ?_)
      refine x_aload_n C dX6_ticks_261 rfl hl 1 rfl ?_
      refine x_get C inX6 hP 0 rfl rfl 0 (by decide) wf_X6_7 rfl dX6_ticks_262 ?_
      refine x_iload_n C dX6_ticks_265 rfl hl 0 rfl ?_
      refine x_aload_n C dX6_ticks_266 rfl hl 1 rfl ?_
      refine x_get C inX6 hP 0 rfl rfl 0 (by decide) wf_X6_7 rfl dX6_ticks_267 ?_
      refine x_sipush (v := (557 : Int32)) C dX6_ticks_270 (by decide) ?_
      refine x_ialdK C (by decide) hP 1 rfl (t0 := 0) rfl dX6_ticks_273 ?_
      refine x_iastM (wM cI aM) C h hP hD hS 1 rfl (t0 := 0) rfl rfl dX6_ticks_274 (fun S28 h H locs hP hD hS => ?_)
      refine x_aload_n C dX6_ticks_275 rfl hl 1 rfl ?_
      refine x_get C inX6 hP 0 rfl rfl 0 (by decide) wf_X6_7 rfl dX6_ticks_276 ?_
      refine x_iload_n C dX6_ticks_279 rfl hl 0 rfl ?_
      refine x_iconst (v := (1 : Int32)) C dX6_ticks_280 (by decide) ?_
      refine x_iadd C dX6_ticks_281 ?_
      refine x_aload_n C dX6_ticks_282 rfl hl 1 rfl ?_
      refine x_get C inX6 hP 0 rfl rfl 6 (by decide) wf_X6_118 rfl dX6_ticks_283 ?_
      refine x_iastM (wM cI aM) C h hP hD hS 1 rfl (t0 := 0) rfl rfl dX6_ticks_286 (fun S29 h H locs hP hD hS => ?_)
      refine x_aload_n C dX6_ticks_287 rfl hl 1 rfl ?_
      refine x_get C inX6 hP 0 rfl rfl 0 (by decide) wf_X6_7 rfl dX6_ticks_288 ?_
      refine x_iload_n C dX6_ticks_291 rfl hl 0 rfl ?_
      refine x_iconst (v := (2 : Int32)) C dX6_ticks_292 (by decide) ?_
      refine x_iadd C dX6_ticks_293 ?_
      refine x_aload_n C dX6_ticks_294 rfl hl 1 rfl ?_
      refine x_get C inX6 hP 0 rfl rfl 7 (by decide) wf_X6_90 rfl dX6_ticks_295 ?_
      refine x_iastM (wM cI aM) C h hP hD hS 1 rfl (t0 := 0) rfl rfl dX6_ticks_298 (fun S30 h H locs hP hD hS => ?_)
      refine x_aload_n C dX6_ticks_299 rfl hl 1 rfl ?_
      refine x_get C inX6 hP 0 rfl rfl 0 (by decide) wf_X6_7 rfl dX6_ticks_300 ?_
      refine x_iload_n C dX6_ticks_303 rfl hl 0 rfl ?_
      refine x_iconst (v := (3 : Int32)) C dX6_ticks_304 (by decide) ?_
      refine x_iadd C dX6_ticks_305 ?_
      refine x_aload_n C dX6_ticks_306 rfl hl 1 rfl ?_
      refine x_get C inX6 hP 0 rfl rfl 8 (by decide) wf_X6_77 rfl dX6_ticks_307 ?_
      refine x_iastM (wM cI aM) C h hP hD hS 1 rfl (t0 := 0) rfl rfl dX6_ticks_310 (fun S31 h H locs hP hD hS => ?_)
      refine x_aload_n C dX6_ticks_311 rfl hl 1 rfl ?_
      refine x_get C inX6 hP 0 rfl rfl 0 (by decide) wf_X6_7 rfl dX6_ticks_312 ?_
      refine x_sipush (v := (187 : Int32)) C dX6_ticks_315 (by decide) ?_
      refine x_aload_n C dX6_ticks_318 rfl hl 1 rfl ?_
      refine x_get C inX6 hP 0 rfl rfl 0 (by decide) wf_X6_7 rfl dX6_ticks_319 ?_
      refine x_sipush (v := (557 : Int32)) C dX6_ticks_322 (by decide) ?_
      refine x_ialdK C (by decide) hP 1 rfl (t0 := 0) rfl dX6_ticks_325 ?_
      refine x_aload_n C dX6_ticks_326 rfl hl 1 rfl ?_
      refine x_get C inX6 hP 0 rfl rfl 0 (by decide) wf_X6_7 rfl dX6_ticks_327 ?_
      refine x_sipush (v := (187 : Int32)) C dX6_ticks_330 (by decide) ?_
      refine x_ialdK C (by decide) hP 1 rfl (t0 := 0) rfl dX6_ticks_333 ?_
      refine x_icmp_le (tgt := 348) C h dX6_ticks_334 (by decide) (fun h => ?_) (fun h => ?_)
      · refine x_aload_n C dX6_ticks_348 rfl hl 1 rfl ?_
        refine x_get C inX6 hP 0 rfl rfl 0 (by decide) wf_X6_7 rfl dX6_ticks_349 ?_
        refine x_sipush (v := (187 : Int32)) C dX6_ticks_352 (by decide) ?_
        refine x_ialdK C (by decide) hP 1 rfl (t0 := 0) rfl dX6_ticks_355 ?_
        exact B356 _ _ _ h _ _ _ hP hD hS (lv_sub hl [] rfl)
      · refine x_aload_n C dX6_ticks_337 rfl hl 1 rfl ?_
        refine x_get C inX6 hP 0 rfl rfl 0 (by decide) wf_X6_7 rfl dX6_ticks_338 ?_
        refine x_sipush (v := (557 : Int32)) C dX6_ticks_341 (by decide) ?_
        refine x_ialdK C (by decide) hP 1 rfl (t0 := 0) rfl dX6_ticks_344 ?_
        refine x_goto (tgt := 356) C dX6_ticks_345 (by decide) ?_
        exact B356 _ _ _ h _ _ _ hP hD hS (lv_sub hl [] rfl)
    · refine x_aload_n C dX6_ticks_229 rfl hl 0 rfl ?_
      refine x_aload_n C dX6_ticks_230 rfl hl 0 rfl ?_
      refine x_get C inX6 hP 0 rfl rfl 9 (by decide) wf_X6_22 rfl dX6_ticks_231 ?_
      refine x_iload_n C dX6_ticks_234 rfl hl 2 rfl ?_
      refine x_iald C h hP 5 rfl (t0 := 0) rfl dX6_ticks_235 (fun h => ?_)
      obtain ⟨u32, hu32, h⟩ := ob_some h
      refine x_callV (As := [.int _]) (n := 1) C (kX6_abandons l D cI cS aM _ _ hu32) (fun hh => nomatch hh) wm_X6_154 wi_X6_abandons we_X6_abandons wz_X6 wc_X6_abandons (by decide +kernel) rfl hP hD hS hA 0 3 rfl rfl rfl hl.1 dX6_ticks_236 rfl (Nat.le_of_ble_eq_true rfl) ⟨Nat.le_of_ble_eq_true rfl, Nat.le_of_ble_eq_true rfl⟩ ⟨Nat.zero_le _, Nat.zero_le _⟩ (fun H locs hP hD hS => ?_)
      refine x_iinc (v := (x2 + (1 : Int32))) (lv' := [(2, .int (x2 + (1 : Int32))), (0, .ref (aM 0)), (1, .int x1)]) C dX6_ticks_239 hl (k := 2) rfl rfl (by decide) rfl (fun ls hl => ?_)
      refine x_goto (tgt := 224) C dX6_ticks_242 (by decide) ?_
      exact ih224 _ h _ _ _ hP hD hS (lv_sub hl [1, 2, 0] rfl)
  have B200 : ∀ (n : Nat) (x : Int32 × (MS)), iter (bfX6_ticks_200) n x = some q → (match x with | (x2, S) => ∀ (H : Heap) (locs : List Loc) (ls : Array Slot), va_P D vwCl (wM cI aM S) H → va_D A (wM cI aM S) → va_S A s.heap H locs → lv_has ls 3 [(0, .ref (aM 0)), (2, .int x2)] → W p l e (rmL 7) s m args below meth c H locs 0 0 Q (F0 m 200 ls [])) := by
    refine iter_ind (fun x : Int32 × (MS) => (match x with | (x2, S) => ∀ (H : Heap) (locs : List Loc) (ls : Array Slot), va_P D vwCl (wM cI aM S) H → va_D A (wM cI aM S) → va_S A s.heap H locs → lv_has ls 3 [(0, .ref (aM 0)), (2, .int x2)] → W p l e (rmL 7) s m args below meth c H locs 0 0 Q (F0 m 200 ls []))) ?_
    intro K200 ih200 x h
    obtain ⟨x2, S⟩ := x
    intro H locs ls hP hD hS hl
    refine x_iload_n C dX6_ticks_200 rfl hl 1 rfl ?_
    refine x_iconst (v := (4 : Int32)) C dX6_ticks_201 (by decide) ?_
    refine x_icmp_ge (tgt := 216) C h dX6_ticks_202 (by decide) (fun h => ?_) (fun h => ?_)
    · refine x_aload_n C dX6_ticks_216 rfl hl 0 rfl ?_
      refine x_iconst (v := (0 : Int32)) C dX6_ticks_217 (by decide) ?_
      obtain ⟨u33, hu33, h⟩ := ob_some h
      refine x_callV (As := [.int _]) (n := 1) C (kX6_gathers l D cI cS aM _ _ hu33) (fun hh => nomatch hh) wm_X6_136 wi_X6_gathers we_X6_gathers wz_X6 wc_X6_gathers (by decide +kernel) rfl hP hD hS hA 0 3 rfl rfl rfl hl.1 dX6_ticks_218 rfl (Nat.le_of_ble_eq_true rfl) ⟨Nat.le_of_ble_eq_true rfl, Nat.le_of_ble_eq_true rfl⟩ ⟨Nat.zero_le _, Nat.zero_le _⟩ (fun H locs hP hD hS => ?_)
      refine x_istore_n (lv' := [(1, .int u33.1), (0, .ref (aM 0)), (2, .int x2)]) C dX6_ticks_221 rfl hl (by decide) rfl (fun ls hl => ?_)
      refine x_iconst (v := (0 : Int32)) C dX6_ticks_222 (by decide) ?_
      refine x_istore_n (lv' := [(2, .int (0 : Int32)), (1, .int u33.1), (0, .ref (aM 0))]) C dX6_ticks_223 rfl hl (by decide) rfl (fun ls hl => ?_)
      exact B224 FU _ h _ _ _ hP hD hS (lv_sub hl [2, 1, 0] rfl)
    · refine x_aload_n C dX6_ticks_205 rfl hl 0 rfl ?_
      refine x_iload_n C dX6_ticks_206 rfl hl 1 rfl ?_
      obtain ⟨u34, hu34, h⟩ := ob_some h
      refine x_callV (As := [.int _]) (n := 1) C (kX6_finishesFront l D cI cS aM _ _ hu34) (fun hh => nomatch hh) wm_X6_151 wi_X6_finishesFront we_X6_finishesFront wz_X6 wc_X6_finishesFront (by decide +kernel) rfl hP hD hS hA 0 3 rfl rfl rfl hl.1 dX6_ticks_207 rfl (Nat.le_of_ble_eq_true rfl) ⟨Nat.le_of_ble_eq_true rfl, Nat.le_of_ble_eq_true rfl⟩ ⟨Nat.zero_le _, Nat.zero_le _⟩ (fun H locs hP hD hS => ?_)
      refine x_iinc (v := (x2 + (1 : Int32))) (lv' := [(2, .int (x2 + (1 : Int32))), (0, .ref (aM 0))]) C dX6_ticks_210 hl (k := 1) rfl rfl (by decide) rfl (fun ls hl => ?_)
      refine x_goto (tgt := 200) C dX6_ticks_213 (by decide) ?_
      exact ih200 _ h _ _ _ hP hD hS (lv_sub hl [1, 0] rfl)
  have B182 : ∀ (n : Nat) (x : Int32 × (MS)), iter (bfX6_ticks_182) n x = some q → (match x with | (x2, S) => ∀ (H : Heap) (locs : List Loc) (ls : Array Slot), va_P D vwCl (wM cI aM S) H → va_D A (wM cI aM S) → va_S A s.heap H locs → lv_has ls 3 [(0, .ref (aM 0)), (2, .int x2)] → W p l e (rmL 7) s m args below meth c H locs 0 0 Q (F0 m 182 ls [])) := by
    refine iter_ind (fun x : Int32 × (MS) => (match x with | (x2, S) => ∀ (H : Heap) (locs : List Loc) (ls : Array Slot), va_P D vwCl (wM cI aM S) H → va_D A (wM cI aM S) → va_S A s.heap H locs → lv_has ls 3 [(0, .ref (aM 0)), (2, .int x2)] → W p l e (rmL 7) s m args below meth c H locs 0 0 Q (F0 m 182 ls []))) ?_
    intro K182 ih182 x h
    obtain ⟨x2, S⟩ := x
    intro H locs ls hP hD hS hl
    refine x_iload_n C dX6_ticks_182 rfl hl 1 rfl ?_
    refine x_iconst (v := (4 : Int32)) C dX6_ticks_183 (by decide) ?_
    refine x_icmp_ge (tgt := 198) C h dX6_ticks_184 (by decide) (fun h => ?_) (fun h => ?_)
    · refine x_iconst (v := (0 : Int32)) C dX6_ticks_198 (by decide) ?_
      refine x_istore_n (lv' := [(2, .int (0 : Int32)), (0, .ref (aM 0))]) C dX6_ticks_199 rfl hl (by decide) rfl (fun ls hl => ?_)
      exact B200 FU _ h _ _ _ hP hD hS (lv_sub hl [1, 0] rfl)
    · refine x_aload_n C dX6_ticks_187 rfl hl 0 rfl ?_
      refine x_iload_n C dX6_ticks_188 rfl hl 1 rfl ?_
      obtain ⟨u35, hu35, h⟩ := ob_some h
      refine x_callV (As := [.int _]) (n := 1) C (kX6_finishesBack l D cI cS aM _ _ hu35) (fun hh => nomatch hh) wm_X6_148 wi_X6_finishesBack we_X6_finishesBack wz_X6 wc_X6_finishesBack (by decide +kernel) rfl hP hD hS hA 0 3 rfl rfl rfl hl.1 dX6_ticks_189 rfl (Nat.le_of_ble_eq_true rfl) ⟨Nat.le_of_ble_eq_true rfl, Nat.le_of_ble_eq_true rfl⟩ ⟨Nat.zero_le _, Nat.zero_le _⟩ (fun H locs hP hD hS => ?_)
      refine x_iinc (v := (x2 + (1 : Int32))) (lv' := [(2, .int (x2 + (1 : Int32))), (0, .ref (aM 0))]) C dX6_ticks_192 hl (k := 1) rfl rfl (by decide) rfl (fun ls hl => ?_)
      refine x_goto (tgt := 182) C dX6_ticks_195 (by decide) ?_
      exact ih182 _ h _ _ _ hP hD hS (lv_sub hl [1, 0] rfl)
  have B131 : ∀ (n : Nat) (x : Int32 × (MS)), iter (bfX6_ticks_131) n x = some q → (match x with | (x2, S) => ∀ (H : Heap) (locs : List Loc) (ls : Array Slot), va_P D vwCl (wM cI aM S) H → va_D A (wM cI aM S) → va_S A s.heap H locs → lv_has ls 3 [(0, .ref (aM 0)), (2, .int x2)] → W p l e (rmL 7) s m args below meth c H locs 0 0 Q (F0 m 131 ls [])) := by
    refine iter_ind (fun x : Int32 × (MS) => (match x with | (x2, S) => ∀ (H : Heap) (locs : List Loc) (ls : Array Slot), va_P D vwCl (wM cI aM S) H → va_D A (wM cI aM S) → va_S A s.heap H locs → lv_has ls 3 [(0, .ref (aM 0)), (2, .int x2)] → W p l e (rmL 7) s m args below meth c H locs 0 0 Q (F0 m 131 ls []))) ?_
    intro K131 ih131 x h
    obtain ⟨x2, S⟩ := x
    intro H locs ls hP hD hS hl
    refine x_iload_n C dX6_ticks_131 rfl hl 1 rfl ?_
    refine x_aload_n C dX6_ticks_132 rfl hl 0 rfl ?_
    refine x_get C inX6 hP 0 rfl rfl 0 (by decide) wf_X6_7 rfl dX6_ticks_133 ?_
    refine x_sipush (v := (174 : Int32)) C dX6_ticks_136 (by decide) ?_
    refine x_ialdK C (by decide) hP 1 rfl (t0 := 0) rfl dX6_ticks_139 ?_
    refine x_icmp_ge (tgt := 154) C h dX6_ticks_140 (by decide) (fun h => ?_) (fun h => ?_)
    · refine x_aload_n C dX6_ticks_154 rfl hl 0 rfl ?_
      obtain ⟨u36, hu36, h⟩ := ob_some h
      refine x_callV (As := []) (n := 0) C (kX6_works l D cI cS aM  _ hu36) (fun hh => nomatch hh) wm_X6_145 wi_X6_works we_X6_works wz_X6 wc_X6_works (by decide +kernel) rfl hP hD hS hA 0 3 rfl rfl rfl hl.1 dX6_ticks_155 rfl (Nat.le_of_ble_eq_true rfl) ⟨Nat.le_of_ble_eq_true rfl, Nat.le_of_ble_eq_true rfl⟩ ⟨Nat.zero_le _, Nat.zero_le _⟩ (fun H locs hP hD hS => ?_)
      refine x_aload_n C dX6_ticks_158 rfl hl 0 rfl ?_
      refine x_get C inX6 hP 0 rfl rfl 0 (by decide) wf_X6_7 rfl dX6_ticks_159 ?_
      refine x_sipush (v := (182 : Int32)) C dX6_ticks_162 (by decide) ?_
      refine x_dup2 C dX6_ticks_165 rfl rfl ?_
      refine x_ialdK C (by decide) hP 1 rfl (t0 := 0) rfl dX6_ticks_166 ?_
      refine x_iconst (v := (1 : Int32)) C dX6_ticks_167 (by decide) ?_
      refine x_iadd C dX6_ticks_168 ?_
      refine x_iastMK (wM cI aM) C h (by decide) hP hD hS 1 rfl (t0 := 0) rfl rfl dX6_ticks_169 (fun S37 h H locs hP hD hS => ?_)
      refine x_aload_n C dX6_ticks_170 rfl hl 0 rfl ?_
      refine x_dup C dX6_ticks_171 rfl ?_
      refine x_get C inX6 hP 0 rfl rfl 5 (by decide) wf_X6_67 rfl dX6_ticks_172 ?_
      refine x_iconst (v := (1 : Int32)) C dX6_ticks_175 (by decide) ?_
      refine x_iadd C dX6_ticks_176 ?_
      refine x_putM (wM cI aM) C h inX6 tyX6 tyX6_ok nmX6 hP hD hS 0 rfl rfl 5 (by decide) wf_X6_67 rfl (ft := .int) (by decide +kernel) rfl rfl (Nat.le_of_ble_eq_true rfl) rfl dX6_ticks_177 (fun S38 h H locs hP hD hS => ?_)
      refine x_iconst (v := (0 : Int32)) C dX6_ticks_180 (by decide) ?_
      refine x_istore_n (lv' := [(2, .int (0 : Int32)), (0, .ref (aM 0))]) C dX6_ticks_181 rfl hl (by decide) rfl (fun ls hl => ?_)
      exact B182 FU _ h _ _ _ hP hD hS (lv_sub hl [1, 0] rfl)
    · refine x_aload_n C dX6_ticks_143 rfl hl 0 rfl ?_
      refine x_iload_n C dX6_ticks_144 rfl hl 1 rfl ?_
      obtain ⟨u39, hu39, h⟩ := ob_some h
      refine x_callV (As := [.int _]) (n := 1) C (kX6_takesFront l D cI cS aM _ _ hu39) (fun hh => nomatch hh) wm_X6_142 wi_X6_takesFront we_X6_takesFront wz_X6 wc_X6_takesFront (by decide +kernel) rfl hP hD hS hA 0 3 rfl rfl rfl hl.1 dX6_ticks_145 rfl (Nat.le_of_ble_eq_true rfl) ⟨Nat.le_of_ble_eq_true rfl, Nat.le_of_ble_eq_true rfl⟩ ⟨Nat.zero_le _, Nat.zero_le _⟩ (fun H locs hP hD hS => ?_)
      refine x_iinc (v := (x2 + (1 : Int32))) (lv' := [(2, .int (x2 + (1 : Int32))), (0, .ref (aM 0))]) C dX6_ticks_148 hl (k := 1) rfl rfl (by decide) rfl (fun ls hl => ?_)
      refine x_goto (tgt := 131) C dX6_ticks_151 (by decide) ?_
      exact ih131 _ h _ _ _ hP hD hS (lv_sub hl [1, 0] rfl)
  have B106 : ∀ (n : Nat) (x : Int32 × (MS)), iter (bfX6_ticks_106) n x = some q → (match x with | (x2, S) => ∀ (H : Heap) (locs : List Loc) (ls : Array Slot), va_P D vwCl (wM cI aM S) H → va_D A (wM cI aM S) → va_S A s.heap H locs → lv_has ls 3 [(0, .ref (aM 0)), (2, .int x2)] → W p l e (rmL 7) s m args below meth c H locs 0 0 Q (F0 m 106 ls [])) := by
    refine iter_ind (fun x : Int32 × (MS) => (match x with | (x2, S) => ∀ (H : Heap) (locs : List Loc) (ls : Array Slot), va_P D vwCl (wM cI aM S) H → va_D A (wM cI aM S) → va_S A s.heap H locs → lv_has ls 3 [(0, .ref (aM 0)), (2, .int x2)] → W p l e (rmL 7) s m args below meth c H locs 0 0 Q (F0 m 106 ls []))) ?_
    intro K106 ih106 x h
    obtain ⟨x2, S⟩ := x
    intro H locs ls hP hD hS hl
    refine x_iload_n C dX6_ticks_106 rfl hl 1 rfl ?_
    refine x_aload_n C dX6_ticks_107 rfl hl 0 rfl ?_
    refine x_get C inX6 hP 0 rfl rfl 0 (by decide) wf_X6_7 rfl dX6_ticks_108 ?_
    refine x_sipush (v := (176 : Int32)) C dX6_ticks_111 (by decide) ?_
    refine x_ialdK C (by decide) hP 1 rfl (t0 := 0) rfl dX6_ticks_114 ?_
    refine x_icmp_ge (tgt := 129) C h dX6_ticks_115 (by decide) (fun h => ?_) (fun h => ?_)
    · refine x_iconst (v := (0 : Int32)) C dX6_ticks_129 (by decide) ?_
      refine x_istore_n (lv' := [(2, .int (0 : Int32)), (0, .ref (aM 0))]) C dX6_ticks_130 rfl hl (by decide) rfl (fun ls hl => ?_)
      exact B131 FU _ h _ _ _ hP hD hS (lv_sub hl [1, 0] rfl)
    · refine x_aload_n C dX6_ticks_118 rfl hl 0 rfl ?_
      refine x_iload_n C dX6_ticks_119 rfl hl 1 rfl ?_
      obtain ⟨u40, hu40, h⟩ := ob_some h
      refine x_callV (As := [.int _]) (n := 1) C (kX6_takesBack l D cI cS aM _ _ hu40) (fun hh => nomatch hh) wm_X6_139 wi_X6_takesBack we_X6_takesBack wz_X6 wc_X6_takesBack (by decide +kernel) rfl hP hD hS hA 0 3 rfl rfl rfl hl.1 dX6_ticks_120 rfl (Nat.le_of_ble_eq_true rfl) ⟨Nat.le_of_ble_eq_true rfl, Nat.le_of_ble_eq_true rfl⟩ ⟨Nat.zero_le _, Nat.zero_le _⟩ (fun H locs hP hD hS => ?_)
      refine x_iinc (v := (x2 + (1 : Int32))) (lv' := [(2, .int (x2 + (1 : Int32))), (0, .ref (aM 0))]) C dX6_ticks_123 hl (k := 1) rfl rfl (by decide) rfl (fun ls hl => ?_)
      refine x_goto (tgt := 106) C dX6_ticks_126 (by decide) ?_
      exact ih106 _ h _ _ _ hP hD hS (lv_sub hl [1, 0] rfl)
  have B79 : ∀ (n : Nat) (x : Int32 × Int32 × (MS)), iter (bfX6_ticks_79) n x = some q → (match x with | (x1, x2, S) => ∀ (H : Heap) (locs : List Loc) (ls : Array Slot), va_P D vwCl (wM cI aM S) H → va_D A (wM cI aM S) → va_S A s.heap H locs → lv_has ls 3 [(0, .ref (aM 0)), (1, .int x1), (2, .int x2)] → W p l e (rmL 7) s m args below meth c H locs 0 0 Q (F0 m 79 ls [])) := by
    refine iter_ind (fun x : Int32 × Int32 × (MS) => (match x with | (x1, x2, S) => ∀ (H : Heap) (locs : List Loc) (ls : Array Slot), va_P D vwCl (wM cI aM S) H → va_D A (wM cI aM S) → va_S A s.heap H locs → lv_has ls 3 [(0, .ref (aM 0)), (1, .int x1), (2, .int x2)] → W p l e (rmL 7) s m args below meth c H locs 0 0 Q (F0 m 79 ls []))) ?_
    intro K79 ih79 x h
    obtain ⟨x1, x2, S⟩ := x
    intro H locs ls hP hD hS hl
    refine x_iload_n C dX6_ticks_79 rfl hl 2 rfl ?_
    refine x_iload_n C dX6_ticks_80 rfl hl 1 rfl ?_
    refine x_icmp_ge (tgt := 104) C h dX6_ticks_81 (by decide) (fun h => ?_) (fun h => ?_)
    · refine x_iconst (v := (0 : Int32)) C dX6_ticks_104 (by decide) ?_
      refine x_istore_n (lv' := [(2, .int (0 : Int32)), (0, .ref (aM 0)), (1, .int x1)]) C dX6_ticks_105 rfl hl (by decide) rfl (fun ls hl => ?_)
      exact B106 FU _ h _ _ _ hP hD hS (lv_sub hl [1, 0] rfl)
    · refine x_aload_n C dX6_ticks_84 rfl hl 0 rfl ?_
      refine x_aload_n C dX6_ticks_85 rfl hl 0 rfl ?_
      refine x_aload_n C dX6_ticks_86 rfl hl 0 rfl ?_
      refine x_get C inX6 hP 0 rfl rfl 9 (by decide) wf_X6_22 rfl dX6_ticks_87 ?_
      refine x_iload_n C dX6_ticks_90 rfl hl 2 rfl ?_
      refine x_iald C h hP 5 rfl (t0 := 0) rfl dX6_ticks_91 (fun h => ?_)
      obtain ⟨u41, hu41, h⟩ := ob_some h
      refine x_callV (As := [.int _]) (n := 1) C (kX6_placeOf l D cI cS aM _ _ hu41) (fun hh => nomatch hh) wm_X6_84 wi_X6_placeOf we_X6_placeOf wz_X6 wc_X6_placeOf (by decide +kernel) rfl hP hD hS hA 0 3 rfl rfl rfl hl.1 dX6_ticks_92 rfl (Nat.le_of_ble_eq_true rfl) ⟨Nat.le_of_ble_eq_true rfl, Nat.le_of_ble_eq_true rfl⟩ ⟨Nat.zero_le _, Nat.zero_le _⟩ (fun H locs hP hD hS => ?_)
      obtain ⟨u42, hu42, h⟩ := ob_some h
      refine x_callV (As := [.int _]) (n := 1) C (kX6_sends l D cI cS aM _ _ hu42) (fun hh => nomatch hh) wm_X6_109 wi_X6_sends we_X6_sends wz_X6 wc_X6_sends (by decide +kernel) rfl hP hD hS hA 0 3 rfl rfl rfl hl.1 dX6_ticks_95 rfl (Nat.le_of_ble_eq_true rfl) ⟨Nat.le_of_ble_eq_true rfl, Nat.le_of_ble_eq_true rfl⟩ ⟨Nat.zero_le _, Nat.zero_le _⟩ (fun H locs hP hD hS => ?_)
      refine x_iinc (v := (x2 + (1 : Int32))) (lv' := [(2, .int (x2 + (1 : Int32))), (0, .ref (aM 0)), (1, .int x1)]) C dX6_ticks_98 hl (k := 2) rfl rfl (by decide) rfl (fun ls hl => ?_)
      refine x_goto (tgt := 79) C dX6_ticks_101 (by decide) ?_
      exact ih79 _ h _ _ _ hP hD hS (lv_sub hl [1, 2, 0] rfl)
  have B65 : ∀ (K29 : Int32 × (MS) → Option (MS)) (ih29 : ∀ x, K29 x = some q → (match x with | (x1, S) => ∀ (H : Heap) (locs : List Loc) (ls : Array Slot), va_P D vwCl (wM cI aM S) H → va_D A (wM cI aM S) → va_S A s.heap H locs → lv_has ls 3 [(0, .ref (aM 0)), (1, .int x1)] → W p l e (rmL 7) s m args below meth c H locs 0 0 Q (F0 m 29 ls []))) (x1 : Int32) (S : MS), bfX6_ticks_65 K29 x1 S = some q → ∀ (H : Heap) (locs : List Loc) (ls : Array Slot), va_P D vwCl (wM cI aM S) H → va_D A (wM cI aM S) → va_S A s.heap H locs → lv_has ls 3 [(0, .ref (aM 0)), (1, .int x1)] → W p l e (rmL 7) s m args below meth c H locs 0 0 Q (F0 m 65 ls []) := by
    intro K29 ih29 x1 S h H locs ls hP hD hS hl
    refine x_iinc (v := (x1 + (1 : Int32))) (lv' := [(1, .int (x1 + (1 : Int32))), (0, .ref (aM 0))]) C dX6_ticks_65 hl (k := 1) rfl rfl (by decide) rfl (fun ls hl => ?_)
    refine x_goto (tgt := 29) C dX6_ticks_68 (by decide) ?_
    exact ih29 _ h _ _ _ hP hD hS (lv_sub hl [1, 0] rfl)
  have B37 : ∀ (K29 : Int32 × (MS) → Option (MS)) (ih29 : ∀ x, K29 x = some q → (match x with | (x1, S) => ∀ (H : Heap) (locs : List Loc) (ls : Array Slot), va_P D vwCl (wM cI aM S) H → va_D A (wM cI aM S) → va_S A s.heap H locs → lv_has ls 3 [(0, .ref (aM 0)), (1, .int x1)] → W p l e (rmL 7) s m args below meth c H locs 0 0 Q (F0 m 29 ls []))) (n : Nat) (x : Int32 × Int32 × (MS)), iter (bfX6_ticks_37 K29) n x = some q → (match x with | (x1, x2, S) => ∀ (H : Heap) (locs : List Loc) (ls : Array Slot), va_P D vwCl (wM cI aM S) H → va_D A (wM cI aM S) → va_S A s.heap H locs → lv_has ls 3 [(0, .ref (aM 0)), (1, .int x1), (2, .int x2)] → W p l e (rmL 7) s m args below meth c H locs 0 0 Q (F0 m 37 ls [])) := by
    intro K29 ih29
    refine iter_ind (fun x : Int32 × Int32 × (MS) => (match x with | (x1, x2, S) => ∀ (H : Heap) (locs : List Loc) (ls : Array Slot), va_P D vwCl (wM cI aM S) H → va_D A (wM cI aM S) → va_S A s.heap H locs → lv_has ls 3 [(0, .ref (aM 0)), (1, .int x1), (2, .int x2)] → W p l e (rmL 7) s m args below meth c H locs 0 0 Q (F0 m 37 ls []))) ?_
    intro K37 ih37 x h
    obtain ⟨x1, x2, S⟩ := x
    intro H locs ls hP hD hS hl
    refine x_aload_n C dX6_ticks_37 rfl hl 0 rfl ?_
    refine x_iload_n C dX6_ticks_38 rfl hl 1 rfl ?_
    obtain ⟨u43, hu43, h⟩ := ob_some h
    refine x_callV (As := [.int _]) (n := 1) C (kX6_isDue l D cI cS aM _ _ hu43) (fun hh => nomatch hh) wm_X6_127 wi_X6_isDue we_X6_isDue wz_X6 wc_X6_isDue (by decide +kernel) rfl hP hD hS hA 0 3 rfl rfl rfl hl.1 dX6_ticks_39 rfl (Nat.le_of_ble_eq_true rfl) ⟨Nat.le_of_ble_eq_true rfl, Nat.le_of_ble_eq_true rfl⟩ ⟨Nat.zero_le _, Nat.zero_le _⟩ (fun H locs hP hD hS => ?_)
    refine x_if_eq (tgt := 65) C h dX6_ticks_42 (by decide) (fun h => ?_) (fun h => ?_)
    · exact B65 K29 ih29 _ _ h _ _ _ hP hD hS (lv_sub hl [0, 1] rfl)
    · refine x_iload_n C dX6_ticks_45 rfl hl 2 rfl ?_
      refine x_aload_n C dX6_ticks_46 rfl hl 0 rfl ?_
      refine x_iload_n C dX6_ticks_47 rfl hl 1 rfl ?_
      obtain ⟨u44, hu44, h⟩ := ob_some h
      refine x_callV (As := [.int _]) (n := 1) C (kX6_factorOf l D cI cS aM _ _ hu44) (fun hh => nomatch hh) wm_X6_130 wi_X6_factorOf we_X6_factorOf wz_X6 wc_X6_factorOf (by decide +kernel) rfl hP hD hS hA 0 3 rfl rfl rfl hl.1 dX6_ticks_48 rfl (Nat.le_of_ble_eq_true rfl) ⟨Nat.le_of_ble_eq_true rfl, Nat.le_of_ble_eq_true rfl⟩ ⟨Nat.zero_le _, Nat.zero_le _⟩ (fun H locs hP hD hS => ?_)
      refine x_icmp_ge (tgt := 65) C h dX6_ticks_51 (by decide) (fun h => ?_) (fun h => ?_)
      · exact B65 K29 ih29 _ _ h _ _ _ hP hD hS (lv_sub hl [0, 1] rfl)
      · refine x_aload_n C dX6_ticks_54 rfl hl 0 rfl ?_
        refine x_iload_n C dX6_ticks_55 rfl hl 1 rfl ?_
        obtain ⟨u45, hu45, h⟩ := ob_some h
        refine x_callV (As := [.int _]) (n := 1) C (kX6_creates l D cI cS aM _ _ hu45) (fun hh => nomatch hh) wm_X6_133 wi_X6_creates we_X6_creates wz_X6 wc_X6_creates (by decide +kernel) rfl hP hD hS hA 0 3 rfl rfl rfl hl.1 dX6_ticks_56 rfl (Nat.le_of_ble_eq_true rfl) ⟨Nat.le_of_ble_eq_true rfl, Nat.le_of_ble_eq_true rfl⟩ ⟨Nat.zero_le _, Nat.zero_le _⟩ (fun H locs hP hD hS => ?_)
        refine x_iinc (v := (x2 + (1 : Int32))) (lv' := [(2, .int (x2 + (1 : Int32))), (0, .ref (aM 0)), (1, .int x1)]) C dX6_ticks_59 hl (k := 2) rfl rfl (by decide) rfl (fun ls hl => ?_)
        refine x_goto (tgt := 37) C dX6_ticks_62 (by decide) ?_
        exact ih37 _ h _ _ _ hP hD hS (lv_sub hl [1, 2, 0] rfl)
  have B29 : ∀ (n : Nat) (x : Int32 × (MS)), iter (bfX6_ticks_29) n x = some q → (match x with | (x1, S) => ∀ (H : Heap) (locs : List Loc) (ls : Array Slot), va_P D vwCl (wM cI aM S) H → va_D A (wM cI aM S) → va_S A s.heap H locs → lv_has ls 3 [(0, .ref (aM 0)), (1, .int x1)] → W p l e (rmL 7) s m args below meth c H locs 0 0 Q (F0 m 29 ls [])) := by
    refine iter_ind (fun x : Int32 × (MS) => (match x with | (x1, S) => ∀ (H : Heap) (locs : List Loc) (ls : Array Slot), va_P D vwCl (wM cI aM S) H → va_D A (wM cI aM S) → va_S A s.heap H locs → lv_has ls 3 [(0, .ref (aM 0)), (1, .int x1)] → W p l e (rmL 7) s m args below meth c H locs 0 0 Q (F0 m 29 ls []))) ?_
    intro K29 ih29 x h
    obtain ⟨x1, S⟩ := x
    intro H locs ls hP hD hS hl
    refine x_iload_n C dX6_ticks_29 rfl hl 1 rfl ?_
    refine x_bipush (v := (6 : Int32)) C dX6_ticks_30 (by decide) ?_
    refine x_icmp_ge (tgt := 71) C h dX6_ticks_32 (by decide) (fun h => ?_) (fun h => ?_)
    · refine x_aload_n C dX6_ticks_71 rfl hl 0 rfl ?_
      refine x_iconst (v := (1 : Int32)) C dX6_ticks_72 (by decide) ?_
      obtain ⟨u46, hu46, h⟩ := ob_some h
      refine x_callV (As := [.int _]) (n := 1) C (kX6_gathers l D cI cS aM _ _ hu46) (fun hh => nomatch hh) wm_X6_136 wi_X6_gathers we_X6_gathers wz_X6 wc_X6_gathers (by decide +kernel) rfl hP hD hS hA 0 3 rfl rfl rfl hl.1 dX6_ticks_73 rfl (Nat.le_of_ble_eq_true rfl) ⟨Nat.le_of_ble_eq_true rfl, Nat.le_of_ble_eq_true rfl⟩ ⟨Nat.zero_le _, Nat.zero_le _⟩ (fun H locs hP hD hS => ?_)
      refine x_istore_n (lv' := [(1, .int u46.1), (0, .ref (aM 0))]) C dX6_ticks_76 rfl hl (by decide) rfl (fun ls hl => ?_)
      refine x_iconst (v := (0 : Int32)) C dX6_ticks_77 (by decide) ?_
      refine x_istore_n (lv' := [(2, .int (0 : Int32)), (1, .int u46.1), (0, .ref (aM 0))]) C dX6_ticks_78 rfl hl (by decide) rfl (fun ls hl => ?_)
      exact B79 FU _ h _ _ _ hP hD hS (lv_sub hl [2, 1, 0] rfl)
    · refine x_iconst (v := (0 : Int32)) C dX6_ticks_35 (by decide) ?_
      refine x_istore_n (lv' := [(2, .int (0 : Int32)), (0, .ref (aM 0)), (1, .int x1)]) C dX6_ticks_36 rfl hl (by decide) rfl (fun ls hl => ?_)
      exact B37 K29 ih29 FU _ h _ _ _ hP hD hS (lv_sub hl [1, 2, 0] rfl)
  refine x_aload_n C dX6_ticks_0 rfl hl 0 rfl ?_
  refine x_aload_n C dX6_ticks_1 rfl hl 0 rfl ?_
  refine x_get C inX6 hP 0 rfl rfl 0 (by decide) wf_X6_7 rfl dX6_ticks_2 ?_
  refine x_sipush (v := (182 : Int32)) C dX6_ticks_5 (by decide) ?_
  refine x_ialdK C (by decide) hP 1 rfl (t0 := 0) rfl dX6_ticks_8 ?_
  refine x_putM (wM cI aM) C h inX6 tyX6 tyX6_ok nmX6 hP hD hS 0 rfl rfl 5 (by decide) wf_X6_67 rfl (ft := .int) (by decide +kernel) rfl rfl (Nat.le_of_ble_eq_true rfl) rfl dX6_ticks_9 (fun S47 h H locs hP hD hS => ?_)
  refine x_aload_n C dX6_ticks_12 rfl hl 0 rfl ?_
  refine x_iconst (v := (0 : Int32)) C dX6_ticks_13 (by decide) ?_
  refine x_putM (wM cI aM) C h inX6 tyX6 tyX6_ok nmX6 hP hD hS 0 rfl rfl 6 (by decide) wf_X6_118 rfl (ft := .int) (by decide +kernel) rfl rfl (Nat.le_of_ble_eq_true rfl) rfl dX6_ticks_14 (fun S48 h H locs hP hD hS => ?_)
  refine x_aload_n C dX6_ticks_17 rfl hl 0 rfl ?_
  refine x_iconst (v := (0 : Int32)) C dX6_ticks_18 (by decide) ?_
  refine x_putM (wM cI aM) C h inX6 tyX6 tyX6_ok nmX6 hP hD hS 0 rfl rfl 7 (by decide) wf_X6_90 rfl (ft := .int) (by decide +kernel) rfl rfl (Nat.le_of_ble_eq_true rfl) rfl dX6_ticks_19 (fun S49 h H locs hP hD hS => ?_)
  refine x_aload_n C dX6_ticks_22 rfl hl 0 rfl ?_
  refine x_iconst (v := (0 : Int32)) C dX6_ticks_23 (by decide) ?_
  refine x_putM (wM cI aM) C h inX6 tyX6 tyX6_ok nmX6 hP hD hS 0 rfl rfl 8 (by decide) wf_X6_77 rfl (ft := .int) (by decide +kernel) rfl rfl (Nat.le_of_ble_eq_true rfl) rfl dX6_ticks_24 (fun S50 h H locs hP hD hS => ?_)
  refine x_iconst (v := (0 : Int32)) C dX6_ticks_27 (by decide) ?_
  refine x_istore_n (lv' := [(1, .int (0 : Int32)), (0, .ref (aM 0))]) C dX6_ticks_28 rfl hl (by decide) rfl (fun ls hl => ?_)
  exact B29 FU _ h _ _ _ hP hD hS (lv_sub hl [1, 0] rfl)
theorem dX6_runs_0 : decode cX6_runs 0 = .ok (.iconst 0, 1) := by decide +kernel
theorem dX6_runs_1 : decode cX6_runs 1 = .ok (.istore_n 2, 1) := by decide +kernel
theorem dX6_runs_2 : decode cX6_runs 2 = .ok (.iconst 0, 1) := by decide +kernel
theorem dX6_runs_3 : decode cX6_runs 3 = .ok (.istore_n 3, 1) := by decide +kernel
theorem dX6_runs_4 : decode cX6_runs 4 = .ok (.iload_n 3, 1) := by decide +kernel
theorem dX6_runs_5 : decode cX6_runs 5 = .ok (.iload_n 1, 1) := by decide +kernel
theorem dX6_runs_6 : decode cX6_runs 6 = .ok (.if_icmp .ge 20, 3) := by decide +kernel
theorem dX6_runs_9 : decode cX6_runs 9 = .ok (.aload_n 0, 1) := by decide +kernel
theorem dX6_runs_10 : decode cX6_runs 10 = .ok (.invokevirtual 157, 3) := by decide +kernel
theorem dX6_runs_13 : decode cX6_runs 13 = .ok (.iload_n 2, 1) := by decide +kernel
theorem dX6_runs_14 : decode cX6_runs 14 = .ok (.aload_n 0, 1) := by decide +kernel
theorem dX6_runs_15 : decode cX6_runs 15 = .ok (.getfield 118, 3) := by decide +kernel
theorem dX6_runs_18 : decode cX6_runs 18 = .ok (.iadd, 1) := by decide +kernel
theorem dX6_runs_19 : decode cX6_runs 19 = .ok (.istore_n 2, 1) := by decide +kernel
theorem dX6_runs_20 : decode cX6_runs 20 = .ok (.iinc 3 1, 3) := by decide +kernel
theorem dX6_runs_23 : decode cX6_runs 23 = .ok (.goto (-19), 3) := by decide +kernel
theorem dX6_runs_26 : decode cX6_runs 26 = .ok (.iload_n 2, 1) := by decide +kernel
theorem dX6_runs_27 : decode cX6_runs 27 = .ok (.ireturn, 1) := by decide +kernel
def bfX6_runs_4 (p1 : Int32) (K4 : Int32 × Int32 × (MS) → Option (Int32 × (MS))) (x : Int32 × Int32 × (MS)) : Option (Int32 × (MS)) :=
  match x with
  | (x2, x3, S) => (if p1 ≤ x3 then some (x2, S) else ob (fX6_ticks  S) fun u3 => nm ((x2 + (u3.2.2 6))) fun v4 => K4 (v4, (x3 + (1 : Int32)), u3))
def fX6_runs (p1 : Int32) (S : MS) : Option (Int32 × (MS)) :=
  iter (bfX6_runs_4 p1) FU ((0 : Int32), (0 : Int32), S)
set_option maxHeartbeats 4000000 in
set_option maxRecDepth 100000 in
theorem kX6_runs (l : Launch) (D : va_G) (cI cS : ClassId) (aM : Nat → Nat) (p1 : Int32) (S : MS) {q : Int32 × (MS)} (h : fX6_runs p1 S = some q) : Mc l D (tyL cI cS) false yX6_runs cX6_runs 4 (some .int) 8 [.ref (aM 0), .int p1] (wM cI aM S) (some (.int q.1)) (wM cI aM q.2) := by
  refine Mc_of RX6 (by decide +kernel) rfl wc_X6_runs (Nat.le_of_ble_eq_true rfl) ?_
  intro p e s m args below meth c A Q ls C hA hz hP hD hS hl RET
  have RETh : ∀ {pc : Nat} {ls : Array Slot} {H : Heap} {locs : List Loc} {x : Int32} {S1 : MS}, decode cX6_runs pc = .ok (.ireturn, 1) → some (x, S1) = some q → va_P D vwCl (wM cI aM S1) H → va_D A (wM cI aM S1) → va_S A s.heap H locs → W p l e (rmL 8) s m args below meth c H locs 0 0 Q (F0 m pc ls [.int x]) := by
    intro pc ls H locs x S1 hd h hP hD hS; cases h; exact RET (x_iret C hd) hP hD hS
  have B4 : ∀ (n : Nat) (x : Int32 × Int32 × (MS)), iter (bfX6_runs_4 p1) n x = some q → (match x with | (x2, x3, S) => ∀ (H : Heap) (locs : List Loc) (ls : Array Slot), va_P D vwCl (wM cI aM S) H → va_D A (wM cI aM S) → va_S A s.heap H locs → lv_has ls 4 [(0, .ref (aM 0)), (1, .int p1), (2, .int x2), (3, .int x3)] → W p l e (rmL 8) s m args below meth c H locs 0 0 Q (F0 m 4 ls [])) := by
    refine iter_ind (fun x : Int32 × Int32 × (MS) => (match x with | (x2, x3, S) => ∀ (H : Heap) (locs : List Loc) (ls : Array Slot), va_P D vwCl (wM cI aM S) H → va_D A (wM cI aM S) → va_S A s.heap H locs → lv_has ls 4 [(0, .ref (aM 0)), (1, .int p1), (2, .int x2), (3, .int x3)] → W p l e (rmL 8) s m args below meth c H locs 0 0 Q (F0 m 4 ls []))) ?_
    intro K4 ih4 x h
    obtain ⟨x2, x3, S⟩ := x
    intro H locs ls hP hD hS hl
    refine x_iload_n C dX6_runs_4 rfl hl 3 rfl ?_
    refine x_iload_n C dX6_runs_5 rfl hl 1 rfl ?_
    refine x_icmp_ge (tgt := 26) C h dX6_runs_6 (by decide) (fun h => ?_) (fun h => ?_)
    · refine x_iload_n C dX6_runs_26 rfl hl 2 rfl ?_
      exact RETh dX6_runs_27 h hP hD hS
    · refine x_aload_n C dX6_runs_9 rfl hl 0 rfl ?_
      obtain ⟨u3, hu3, h⟩ := ob_some h
      refine x_callV (As := []) (n := 0) C (kX6_ticks l D cI cS aM  _ hu3) (fun hh => nomatch hh) wm_X6_157 wi_X6_ticks we_X6_ticks wz_X6 wc_X6_ticks (by decide +kernel) rfl hP hD hS hA 0 3 rfl rfl rfl hl.1 dX6_runs_10 rfl (Nat.le_of_ble_eq_true rfl) ⟨Nat.le_of_ble_eq_true rfl, Nat.le_of_ble_eq_true rfl⟩ ⟨Nat.zero_le _, Nat.zero_le _⟩ (fun H locs hP hD hS => ?_)
      refine x_iload_n C dX6_runs_13 rfl hl 2 rfl ?_
      refine x_aload_n C dX6_runs_14 rfl hl 0 rfl ?_
      refine x_get C inX6 hP 0 rfl rfl 6 (by decide) wf_X6_118 rfl dX6_runs_15 ?_
      refine x_iadd C dX6_runs_18 ?_
      refine x_nmi h (fun v4 h => ?_)
      refine x_istore_n (lv' := [(2, .int v4), (0, .ref (aM 0)), (1, .int p1), (3, .int x3)]) C dX6_runs_19 rfl hl (by decide) rfl (fun ls hl => ?_)
      refine x_iinc (v := (x3 + (1 : Int32))) (lv' := [(3, .int (x3 + (1 : Int32))), (2, .int v4), (0, .ref (aM 0)), (1, .int p1)]) C dX6_runs_20 hl (k := 3) rfl rfl (by decide) rfl (fun ls hl => ?_)
      refine x_goto (tgt := 4) C dX6_runs_23 (by decide) ?_
      exact ih4 _ h _ _ _ hP hD hS (lv_sub hl [2, 3, 1, 0] rfl)
  refine x_iconst (v := (0 : Int32)) C dX6_runs_0 (by decide) ?_
  refine x_istore_n (lv' := [(2, .int (0 : Int32)), (0, .ref (aM 0)), (1, .int p1)]) C dX6_runs_1 rfl hl (by decide) rfl (fun ls hl => ?_)
  refine x_iconst (v := (0 : Int32)) C dX6_runs_2 (by decide) ?_
  refine x_istore_n (lv' := [(3, .int (0 : Int32)), (2, .int (0 : Int32)), (0, .ref (aM 0)), (1, .int p1)]) C dX6_runs_3 rfl hl (by decide) rfl (fun ls hl => ?_)
  exact B4 FU _ h _ _ _ hP hD hS (lv_sub hl [2, 3, 1, 0] rfl)
theorem dX6_tries_0 : decode cX6_tries 0 = .ok (.aload_n 0, 1) := by decide +kernel
theorem dX6_tries_1 : decode cX6_tries 1 = .ok (.iconst 0, 1) := by decide +kernel
theorem dX6_tries_2 : decode cX6_tries 2 = .ok (.iconst 5, 1) := by decide +kernel
theorem dX6_tries_3 : decode cX6_tries 3 = .ok (.invokevirtual 29, 3) := by decide +kernel
theorem dX6_tries_6 : decode cX6_tries 6 = .ok (.aload_n 0, 1) := by decide +kernel
theorem dX6_tries_7 : decode cX6_tries 7 = .ok (.getfield 7, 3) := by decide +kernel
theorem dX6_tries_10 : decode cX6_tries 10 = .ok (.sipush 178, 3) := by decide +kernel
theorem dX6_tries_13 : decode cX6_tries 13 = .ok (.iload_n 2, 1) := by decide +kernel
theorem dX6_tries_14 : decode cX6_tries 14 = .ok (.iastore, 1) := by decide +kernel
theorem dX6_tries_15 : decode cX6_tries 15 = .ok (.aload_n 0, 1) := by decide +kernel
theorem dX6_tries_16 : decode cX6_tries 16 = .ok (.getfield 7, 3) := by decide +kernel
theorem dX6_tries_19 : decode cX6_tries 19 = .ok (.sipush 185, 3) := by decide +kernel
theorem dX6_tries_22 : decode cX6_tries 22 = .ok (.iaload, 1) := by decide +kernel
theorem dX6_tries_23 : decode cX6_tries 23 = .ok (.istore_n 3, 1) := by decide +kernel
theorem dX6_tries_24 : decode cX6_tries 24 = .ok (.aload_n 0, 1) := by decide +kernel
theorem dX6_tries_25 : decode cX6_tries 25 = .ok (.iload_n 1, 1) := by decide +kernel
theorem dX6_tries_26 : decode cX6_tries 26 = .ok (.invokevirtual 160, 3) := by decide +kernel
theorem dX6_tries_29 : decode cX6_tries 29 = .ok (.pop, 1) := by decide +kernel
theorem dX6_tries_30 : decode cX6_tries 30 = .ok (.aload_n 0, 1) := by decide +kernel
theorem dX6_tries_31 : decode cX6_tries 31 = .ok (.getfield 7, 3) := by decide +kernel
theorem dX6_tries_34 : decode cX6_tries 34 = .ok (.sipush 185, 3) := by decide +kernel
theorem dX6_tries_37 : decode cX6_tries 37 = .ok (.iaload, 1) := by decide +kernel
theorem dX6_tries_38 : decode cX6_tries 38 = .ok (.iload_n 3, 1) := by decide +kernel
theorem dX6_tries_39 : decode cX6_tries 39 = .ok (.isub, 1) := by decide +kernel
theorem dX6_tries_40 : decode cX6_tries 40 = .ok (.istore 4, 2) := by decide +kernel
theorem dX6_tries_42 : decode cX6_tries 42 = .ok (.aload_n 0, 1) := by decide +kernel
theorem dX6_tries_43 : decode cX6_tries 43 = .ok (.iconst 5, 1) := by decide +kernel
theorem dX6_tries_44 : decode cX6_tries 44 = .ok (.iconst 0, 1) := by decide +kernel
theorem dX6_tries_45 : decode cX6_tries 45 = .ok (.invokevirtual 29, 3) := by decide +kernel
theorem dX6_tries_48 : decode cX6_tries 48 = .ok (.iload 4, 2) := by decide +kernel
theorem dX6_tries_50 : decode cX6_tries 50 = .ok (.ireturn, 1) := by decide +kernel
def fX6_tries (p1 : Int32) (p2 : Int32) (S : MS) : Option (Int32 × (MS)) :=
  ob (fX6_copies (0 : Int32) (5 : Int32) S) fun u7 => nm (upd u7.1 ((178 : Int32)).toNatClampNeg p2, u7.2) fun S8 => nm ((S8.1 ((185 : Int32)).toNatClampNeg)) fun v9 => ob (fX6_runs p1 S8) fun u10 => nm (((u10.2.1 ((185 : Int32)).toNatClampNeg) - v9)) fun v11 => ob (fX6_copies (5 : Int32) (0 : Int32) u10.2) fun u12 => some (v11, u12)
set_option maxHeartbeats 4000000 in
set_option maxRecDepth 100000 in
theorem kX6_tries (l : Launch) (D : va_G) (cI cS : ClassId) (aM : Nat → Nat) (p1 : Int32) (p2 : Int32) (S : MS) {q : Int32 × (MS)} (h : fX6_tries p1 p2 S = some q) : Mc l D (tyL cI cS) false yX6_tries cX6_tries 5 (some .int) 9 [.ref (aM 0), .int p1, .int p2] (wM cI aM S) (some (.int q.1)) (wM cI aM q.2) := by
  refine Mc_of RX6 (by decide +kernel) rfl wc_X6_tries (Nat.le_of_ble_eq_true rfl) ?_
  intro p e s m args below meth c A Q ls C hA hz hP hD hS hl RET
  have RETh : ∀ {pc : Nat} {ls : Array Slot} {H : Heap} {locs : List Loc} {x : Int32} {S1 : MS}, decode cX6_tries pc = .ok (.ireturn, 1) → some (x, S1) = some q → va_P D vwCl (wM cI aM S1) H → va_D A (wM cI aM S1) → va_S A s.heap H locs → W p l e (rmL 9) s m args below meth c H locs 0 0 Q (F0 m pc ls [.int x]) := by
    intro pc ls H locs x S1 hd h hP hD hS; cases h; exact RET (x_iret C hd) hP hD hS
  refine x_aload_n C dX6_tries_0 rfl hl 0 rfl ?_
  refine x_iconst (v := (0 : Int32)) C dX6_tries_1 (by decide) ?_
  refine x_iconst (v := (5 : Int32)) C dX6_tries_2 (by decide) ?_
  obtain ⟨u7, hu7, h⟩ := ob_some h
  refine x_callV (As := [.int _, .int _]) (n := 2) C (kX6_copies l D cI cS aM _ _ _ hu7) (fun hh => nomatch hh) wm_X6_29 wi_X6_copies we_X6_copies wz_X6 wc_X6_copies (by decide +kernel) rfl hP hD hS hA 0 3 rfl rfl rfl hl.1 dX6_tries_3 rfl (Nat.le_of_ble_eq_true rfl) ⟨Nat.le_of_ble_eq_true rfl, Nat.le_of_ble_eq_true rfl⟩ ⟨Nat.zero_le _, Nat.zero_le _⟩ (fun H locs hP hD hS => ?_)
  refine x_aload_n C dX6_tries_6 rfl hl 0 rfl ?_
  refine x_get C inX6 hP 0 rfl rfl 0 (by decide) wf_X6_7 rfl dX6_tries_7 ?_
  refine x_sipush (v := (178 : Int32)) C dX6_tries_10 (by decide) ?_
  refine x_iload_n C dX6_tries_13 rfl hl 2 rfl ?_
  refine x_iastMK (wM cI aM) C h (by decide) hP hD hS 1 rfl (t0 := 0) rfl rfl dX6_tries_14 (fun S8 h H locs hP hD hS => ?_)
  refine x_aload_n C dX6_tries_15 rfl hl 0 rfl ?_
  refine x_get C inX6 hP 0 rfl rfl 0 (by decide) wf_X6_7 rfl dX6_tries_16 ?_
  refine x_sipush (v := (185 : Int32)) C dX6_tries_19 (by decide) ?_
  refine x_ialdK C (by decide) hP 1 rfl (t0 := 0) rfl dX6_tries_22 ?_
  refine x_nmi h (fun v9 h => ?_)
  refine x_istore_n (lv' := [(3, .int v9), (0, .ref (aM 0)), (1, .int p1), (2, .int p2)]) C dX6_tries_23 rfl hl (by decide) rfl (fun ls hl => ?_)
  refine x_aload_n C dX6_tries_24 rfl hl 1 rfl ?_
  refine x_iload_n C dX6_tries_25 rfl hl 2 rfl ?_
  obtain ⟨u10, hu10, h⟩ := ob_some h
  refine x_callV (As := [.int _]) (n := 1) C (kX6_runs l D cI cS aM _ _ hu10) (fun hh => nomatch hh) wm_X6_160 wi_X6_runs we_X6_runs wz_X6 wc_X6_runs (by decide +kernel) rfl hP hD hS hA 0 3 rfl rfl rfl hl.1 dX6_tries_26 rfl (Nat.le_of_ble_eq_true rfl) ⟨Nat.le_of_ble_eq_true rfl, Nat.le_of_ble_eq_true rfl⟩ ⟨Nat.zero_le _, Nat.zero_le _⟩ (fun H locs hP hD hS => ?_)
  refine x_pop C dX6_tries_29 rfl ?_
  refine x_aload_n C dX6_tries_30 rfl hl 1 rfl ?_
  refine x_get C inX6 hP 0 rfl rfl 0 (by decide) wf_X6_7 rfl dX6_tries_31 ?_
  refine x_sipush (v := (185 : Int32)) C dX6_tries_34 (by decide) ?_
  refine x_ialdK C (by decide) hP 1 rfl (t0 := 0) rfl dX6_tries_37 ?_
  refine x_iload_n C dX6_tries_38 rfl hl 0 rfl ?_
  refine x_isub C dX6_tries_39 ?_
  refine x_nmi h (fun v11 h => ?_)
  refine x_istore (lv' := [(4, .int v11), (3, .int v9), (0, .ref (aM 0)), (1, .int p1), (2, .int p2)]) C dX6_tries_40 hl (by decide) rfl (fun ls hl => ?_)
  refine x_aload_n C dX6_tries_42 rfl hl 2 rfl ?_
  refine x_iconst (v := (5 : Int32)) C dX6_tries_43 (by decide) ?_
  refine x_iconst (v := (0 : Int32)) C dX6_tries_44 (by decide) ?_
  obtain ⟨u12, hu12, h⟩ := ob_some h
  refine x_callV (As := [.int _, .int _]) (n := 2) C (kX6_copies l D cI cS aM _ _ _ hu12) (fun hh => nomatch hh) wm_X6_29 wi_X6_copies we_X6_copies wz_X6 wc_X6_copies (by decide +kernel) rfl hP hD hS hA 0 3 rfl rfl rfl hl.1 dX6_tries_45 rfl (Nat.le_of_ble_eq_true rfl) ⟨Nat.le_of_ble_eq_true rfl, Nat.le_of_ble_eq_true rfl⟩ ⟨Nat.zero_le _, Nat.zero_le _⟩ (fun H locs hP hD hS => ?_)
  refine x_iload C dX6_tries_48 hl 0 rfl ?_
  exact RETh dX6_tries_50 h hP hD hS
theorem dX6_bestDiscipline_0 : decode cX6_bestDiscipline 0 = .ok (.iload_n 1, 1) := by decide +kernel
theorem dX6_bestDiscipline_1 : decode cX6_bestDiscipline 1 = .ok (.iconst 1, 1) := by decide +kernel
theorem dX6_bestDiscipline_2 : decode cX6_bestDiscipline 2 = .ok (.bipush 15, 2) := by decide +kernel
theorem dX6_bestDiscipline_4 : decode cX6_bestDiscipline 4 = .ok (.invokestatic 33, 3) := by decide +kernel
theorem dX6_bestDiscipline_7 : decode cX6_bestDiscipline 7 = .ok (.ifCond .ne 5, 3) := by decide +kernel
theorem dX6_bestDiscipline_10 : decode cX6_bestDiscipline 10 = .ok (.iconst (-1), 1) := by decide +kernel
theorem dX6_bestDiscipline_11 : decode cX6_bestDiscipline 11 = .ok (.ireturn, 1) := by decide +kernel
theorem dX6_bestDiscipline_12 : decode cX6_bestDiscipline 12 = .ok (.iconst 0, 1) := by decide +kernel
theorem dX6_bestDiscipline_13 : decode cX6_bestDiscipline 13 = .ok (.istore_n 2, 1) := by decide +kernel
theorem dX6_bestDiscipline_14 : decode cX6_bestDiscipline 14 = .ok (.aload_n 0, 1) := by decide +kernel
theorem dX6_bestDiscipline_15 : decode cX6_bestDiscipline 15 = .ok (.iload_n 1, 1) := by decide +kernel
theorem dX6_bestDiscipline_16 : decode cX6_bestDiscipline 16 = .ok (.iconst 0, 1) := by decide +kernel
theorem dX6_bestDiscipline_17 : decode cX6_bestDiscipline 17 = .ok (.invokevirtual 163, 3) := by decide +kernel
theorem dX6_bestDiscipline_20 : decode cX6_bestDiscipline 20 = .ok (.istore_n 3, 1) := by decide +kernel
theorem dX6_bestDiscipline_21 : decode cX6_bestDiscipline 21 = .ok (.iconst 1, 1) := by decide +kernel
theorem dX6_bestDiscipline_22 : decode cX6_bestDiscipline 22 = .ok (.istore 4, 2) := by decide +kernel
theorem dX6_bestDiscipline_24 : decode cX6_bestDiscipline 24 = .ok (.iload 4, 2) := by decide +kernel
theorem dX6_bestDiscipline_26 : decode cX6_bestDiscipline 26 = .ok (.iconst 3, 1) := by decide +kernel
theorem dX6_bestDiscipline_27 : decode cX6_bestDiscipline 27 = .ok (.if_icmp .gt 44, 3) := by decide +kernel
theorem dX6_bestDiscipline_30 : decode cX6_bestDiscipline 30 = .ok (.aload_n 0, 1) := by decide +kernel
theorem dX6_bestDiscipline_31 : decode cX6_bestDiscipline 31 = .ok (.iload_n 1, 1) := by decide +kernel
theorem dX6_bestDiscipline_32 : decode cX6_bestDiscipline 32 = .ok (.iload 4, 2) := by decide +kernel
theorem dX6_bestDiscipline_34 : decode cX6_bestDiscipline 34 = .ok (.invokevirtual 163, 3) := by decide +kernel
theorem dX6_bestDiscipline_37 : decode cX6_bestDiscipline 37 = .ok (.istore 5, 2) := by decide +kernel
theorem dX6_bestDiscipline_39 : decode cX6_bestDiscipline 39 = .ok (.iload 5, 2) := by decide +kernel
theorem dX6_bestDiscipline_41 : decode cX6_bestDiscipline 41 = .ok (.iload_n 3, 1) := by decide +kernel
theorem dX6_bestDiscipline_42 : decode cX6_bestDiscipline 42 = .ok (.if_icmp .le 8, 3) := by decide +kernel
theorem dX6_bestDiscipline_45 : decode cX6_bestDiscipline 45 = .ok (.iload 4, 2) := by decide +kernel
theorem dX6_bestDiscipline_47 : decode cX6_bestDiscipline 47 = .ok (.goto 4, 3) := by decide +kernel
theorem dX6_bestDiscipline_50 : decode cX6_bestDiscipline 50 = .ok (.iload_n 2, 1) := by decide +kernel
theorem dX6_bestDiscipline_51 : decode cX6_bestDiscipline 51 = .ok (.istore_n 2, 1) := by decide +kernel
theorem dX6_bestDiscipline_52 : decode cX6_bestDiscipline 52 = .ok (.iload 5, 2) := by decide +kernel
theorem dX6_bestDiscipline_54 : decode cX6_bestDiscipline 54 = .ok (.iload_n 3, 1) := by decide +kernel
theorem dX6_bestDiscipline_55 : decode cX6_bestDiscipline 55 = .ok (.if_icmp .le 8, 3) := by decide +kernel
theorem dX6_bestDiscipline_58 : decode cX6_bestDiscipline 58 = .ok (.iload 5, 2) := by decide +kernel
theorem dX6_bestDiscipline_60 : decode cX6_bestDiscipline 60 = .ok (.goto 4, 3) := by decide +kernel
theorem dX6_bestDiscipline_63 : decode cX6_bestDiscipline 63 = .ok (.iload_n 3, 1) := by decide +kernel
theorem dX6_bestDiscipline_64 : decode cX6_bestDiscipline 64 = .ok (.istore_n 3, 1) := by decide +kernel
theorem dX6_bestDiscipline_65 : decode cX6_bestDiscipline 65 = .ok (.iinc 4 1, 3) := by decide +kernel
theorem dX6_bestDiscipline_68 : decode cX6_bestDiscipline 68 = .ok (.goto (-44), 3) := by decide +kernel
theorem dX6_bestDiscipline_71 : decode cX6_bestDiscipline 71 = .ok (.iload_n 2, 1) := by decide +kernel
theorem dX6_bestDiscipline_72 : decode cX6_bestDiscipline 72 = .ok (.ireturn, 1) := by decide +kernel
def bfX6_bestDiscipline_64 (p1 : Int32) (K24 : Int32 × Int32 × Int32 × (MS) → Option (Int32 × (MS))) (x2 : Int32) (x4 : Int32) (s0 : Int32) (S : MS) : Option (Int32 × (MS)) :=
  K24 (x2, s0, (x4 + (1 : Int32)), S)
def bfX6_bestDiscipline_51 (p1 : Int32) (K24 : Int32 × Int32 × Int32 × (MS) → Option (Int32 × (MS))) (x3 : Int32) (x4 : Int32) (x5 : Int32) (s0 : Int32) (S : MS) : Option (Int32 × (MS)) :=
  (if x5 ≤ x3 then bfX6_bestDiscipline_64 p1 K24 s0 x4 x3 S else bfX6_bestDiscipline_64 p1 K24 s0 x4 x5 S)
def bfX6_bestDiscipline_24 (p1 : Int32) (K24 : Int32 × Int32 × Int32 × (MS) → Option (Int32 × (MS))) (x : Int32 × Int32 × Int32 × (MS)) : Option (Int32 × (MS)) :=
  match x with
  | (x2, x3, x4, S) => (if (3 : Int32) < x4 then some (x2, S) else ob (fX6_tries p1 x4 S) fun u4 => (if u4.1 ≤ x3 then bfX6_bestDiscipline_51 p1 K24 x3 x4 u4.1 x2 u4.2 else bfX6_bestDiscipline_51 p1 K24 x3 x4 u4.1 x4 u4.2))
def fX6_bestDiscipline (p1 : Int32) (S : MS) : Option (Int32 × (MS)) :=
  ob (fX6_in p1 (1 : Int32) (15 : Int32)) fun u5 => (if u5 = 0 then some ((-1 : Int32), S) else ob (fX6_tries p1 (0 : Int32) S) fun u6 => iter (bfX6_bestDiscipline_24 p1) FU ((0 : Int32), u6.1, (1 : Int32), u6.2))
set_option maxHeartbeats 4000000 in
set_option maxRecDepth 100000 in
theorem kX6_bestDiscipline (l : Launch) (D : va_G) (cI cS : ClassId) (aM : Nat → Nat) (p1 : Int32) (S : MS) {q : Int32 × (MS)} (h : fX6_bestDiscipline p1 S = some q) : Mc l D (tyL cI cS) false yX6_bestDiscipline cX6_bestDiscipline 6 (some .int) 10 [.ref (aM 0), .int p1] (wM cI aM S) (some (.int q.1)) (wM cI aM q.2) := by
  refine Mc_of RX6 (by decide +kernel) rfl wc_X6_bestDiscipline (Nat.le_of_ble_eq_true rfl) ?_
  intro p e s m args below meth c A Q ls C hA hz hP hD hS hl RET
  have RETh : ∀ {pc : Nat} {ls : Array Slot} {H : Heap} {locs : List Loc} {x : Int32} {S1 : MS}, decode cX6_bestDiscipline pc = .ok (.ireturn, 1) → some (x, S1) = some q → va_P D vwCl (wM cI aM S1) H → va_D A (wM cI aM S1) → va_S A s.heap H locs → W p l e (rmL 10) s m args below meth c H locs 0 0 Q (F0 m pc ls [.int x]) := by
    intro pc ls H locs x S1 hd h hP hD hS; cases h; exact RET (x_iret C hd) hP hD hS
  have B64 : ∀ (K24 : Int32 × Int32 × Int32 × (MS) → Option (Int32 × (MS))) (ih24 : ∀ x, K24 x = some q → (match x with | (x2, x3, x4, S) => ∀ (H : Heap) (locs : List Loc) (ls : Array Slot), va_P D vwCl (wM cI aM S) H → va_D A (wM cI aM S) → va_S A s.heap H locs → lv_has ls 6 [(0, .ref (aM 0)), (1, .int p1), (2, .int x2), (3, .int x3), (4, .int x4)] → W p l e (rmL 10) s m args below meth c H locs 0 0 Q (F0 m 24 ls []))) (x2 : Int32) (x4 : Int32) (s0 : Int32) (S : MS), bfX6_bestDiscipline_64 p1 K24 x2 x4 s0 S = some q → ∀ (H : Heap) (locs : List Loc) (ls : Array Slot), va_P D vwCl (wM cI aM S) H → va_D A (wM cI aM S) → va_S A s.heap H locs → lv_has ls 6 [(0, .ref (aM 0)), (1, .int p1), (2, .int x2), (4, .int x4)] → W p l e (rmL 10) s m args below meth c H locs 0 0 Q (F0 m 64 ls [.int s0]) := by
    intro K24 ih24 x2 x4 s0 S h H locs ls hP hD hS hl
    refine x_istore_n (lv' := [(3, .int s0), (0, .ref (aM 0)), (1, .int p1), (2, .int x2), (4, .int x4)]) C dX6_bestDiscipline_64 rfl hl (by decide) rfl (fun ls hl => ?_)
    refine x_iinc (v := (x4 + (1 : Int32))) (lv' := [(4, .int (x4 + (1 : Int32))), (3, .int s0), (0, .ref (aM 0)), (1, .int p1), (2, .int x2)]) C dX6_bestDiscipline_65 hl (k := 4) rfl rfl (by decide) rfl (fun ls hl => ?_)
    refine x_goto (tgt := 24) C dX6_bestDiscipline_68 (by decide) ?_
    exact ih24 _ h _ _ _ hP hD hS (lv_sub hl [2, 3, 4, 1, 0] rfl)
  have B51 : ∀ (K24 : Int32 × Int32 × Int32 × (MS) → Option (Int32 × (MS))) (ih24 : ∀ x, K24 x = some q → (match x with | (x2, x3, x4, S) => ∀ (H : Heap) (locs : List Loc) (ls : Array Slot), va_P D vwCl (wM cI aM S) H → va_D A (wM cI aM S) → va_S A s.heap H locs → lv_has ls 6 [(0, .ref (aM 0)), (1, .int p1), (2, .int x2), (3, .int x3), (4, .int x4)] → W p l e (rmL 10) s m args below meth c H locs 0 0 Q (F0 m 24 ls []))) (x3 : Int32) (x4 : Int32) (x5 : Int32) (s0 : Int32) (S : MS), bfX6_bestDiscipline_51 p1 K24 x3 x4 x5 s0 S = some q → ∀ (H : Heap) (locs : List Loc) (ls : Array Slot), va_P D vwCl (wM cI aM S) H → va_D A (wM cI aM S) → va_S A s.heap H locs → lv_has ls 6 [(0, .ref (aM 0)), (1, .int p1), (3, .int x3), (4, .int x4), (5, .int x5)] → W p l e (rmL 10) s m args below meth c H locs 0 0 Q (F0 m 51 ls [.int s0]) := by
    intro K24 ih24 x3 x4 x5 s0 S h H locs ls hP hD hS hl
    refine x_istore_n (lv' := [(2, .int s0), (0, .ref (aM 0)), (1, .int p1), (3, .int x3), (4, .int x4), (5, .int x5)]) C dX6_bestDiscipline_51 rfl hl (by decide) rfl (fun ls hl => ?_)
    refine x_iload C dX6_bestDiscipline_52 hl 5 rfl ?_
    refine x_iload_n C dX6_bestDiscipline_54 rfl hl 3 rfl ?_
    refine x_icmp_le (tgt := 63) C h dX6_bestDiscipline_55 (by decide) (fun h => ?_) (fun h => ?_)
    · refine x_iload_n C dX6_bestDiscipline_63 rfl hl 3 rfl ?_
      exact B64 K24 ih24 _ _ _ _ h _ _ _ hP hD hS (lv_sub hl [1, 2, 0, 4] rfl)
    · refine x_iload C dX6_bestDiscipline_58 hl 5 rfl ?_
      refine x_goto (tgt := 64) C dX6_bestDiscipline_60 (by decide) ?_
      exact B64 K24 ih24 _ _ _ _ h _ _ _ hP hD hS (lv_sub hl [1, 2, 0, 4] rfl)
  have B24 : ∀ (n : Nat) (x : Int32 × Int32 × Int32 × (MS)), iter (bfX6_bestDiscipline_24 p1) n x = some q → (match x with | (x2, x3, x4, S) => ∀ (H : Heap) (locs : List Loc) (ls : Array Slot), va_P D vwCl (wM cI aM S) H → va_D A (wM cI aM S) → va_S A s.heap H locs → lv_has ls 6 [(0, .ref (aM 0)), (1, .int p1), (2, .int x2), (3, .int x3), (4, .int x4)] → W p l e (rmL 10) s m args below meth c H locs 0 0 Q (F0 m 24 ls [])) := by
    refine iter_ind (fun x : Int32 × Int32 × Int32 × (MS) => (match x with | (x2, x3, x4, S) => ∀ (H : Heap) (locs : List Loc) (ls : Array Slot), va_P D vwCl (wM cI aM S) H → va_D A (wM cI aM S) → va_S A s.heap H locs → lv_has ls 6 [(0, .ref (aM 0)), (1, .int p1), (2, .int x2), (3, .int x3), (4, .int x4)] → W p l e (rmL 10) s m args below meth c H locs 0 0 Q (F0 m 24 ls []))) ?_
    intro K24 ih24 x h
    obtain ⟨x2, x3, x4, S⟩ := x
    intro H locs ls hP hD hS hl
    refine x_iload C dX6_bestDiscipline_24 hl 4 rfl ?_
    refine x_iconst (v := (3 : Int32)) C dX6_bestDiscipline_26 (by decide) ?_
    refine x_icmp_gt (tgt := 71) C h dX6_bestDiscipline_27 (by decide) (fun h => ?_) (fun h => ?_)
    · refine x_iload_n C dX6_bestDiscipline_71 rfl hl 2 rfl ?_
      exact RETh dX6_bestDiscipline_72 h hP hD hS
    · refine x_aload_n C dX6_bestDiscipline_30 rfl hl 0 rfl ?_
      refine x_iload_n C dX6_bestDiscipline_31 rfl hl 1 rfl ?_
      refine x_iload C dX6_bestDiscipline_32 hl 4 rfl ?_
      obtain ⟨u4, hu4, h⟩ := ob_some h
      refine x_callV (As := [.int _, .int _]) (n := 2) C (kX6_tries l D cI cS aM _ _ _ hu4) (fun hh => nomatch hh) wm_X6_163 wi_X6_tries we_X6_tries wz_X6 wc_X6_tries (by decide +kernel) rfl hP hD hS hA 0 3 rfl rfl rfl hl.1 dX6_bestDiscipline_34 rfl (Nat.le_of_ble_eq_true rfl) ⟨Nat.le_of_ble_eq_true rfl, Nat.le_of_ble_eq_true rfl⟩ ⟨Nat.zero_le _, Nat.zero_le _⟩ (fun H locs hP hD hS => ?_)
      refine x_istore (lv' := [(5, .int u4.1), (0, .ref (aM 0)), (1, .int p1), (2, .int x2), (3, .int x3), (4, .int x4)]) C dX6_bestDiscipline_37 hl (by decide) rfl (fun ls hl => ?_)
      refine x_iload C dX6_bestDiscipline_39 hl 0 rfl ?_
      refine x_iload_n C dX6_bestDiscipline_41 rfl hl 4 rfl ?_
      refine x_icmp_le (tgt := 50) C h dX6_bestDiscipline_42 (by decide) (fun h => ?_) (fun h => ?_)
      · refine x_iload_n C dX6_bestDiscipline_50 rfl hl 3 rfl ?_
        exact B51 K24 ih24 _ _ _ _ _ h _ _ _ hP hD hS (lv_sub hl [1, 2, 4, 5, 0] rfl)
      · refine x_iload C dX6_bestDiscipline_45 hl 5 rfl ?_
        refine x_goto (tgt := 51) C dX6_bestDiscipline_47 (by decide) ?_
        exact B51 K24 ih24 _ _ _ _ _ h _ _ _ hP hD hS (lv_sub hl [1, 2, 4, 5, 0] rfl)
  refine x_iload_n C dX6_bestDiscipline_0 rfl hl 1 rfl ?_
  refine x_iconst (v := (1 : Int32)) C dX6_bestDiscipline_1 (by decide) ?_
  refine x_bipush (v := (15 : Int32)) C dX6_bestDiscipline_2 (by decide) ?_
  obtain ⟨u5, hu5, h⟩ := ob_some h
  refine x_callS (As := [.int _, .int _, .int _]) (n := 3) C (kX6_in l D cI cS _ _ _ _ hu5) (fun hh => nomatch hh) wm_X6_33 wt_X6_in wz_X6 wc_X6_in (by decide +kernel) rfl hP hD hS hA hl.1 dX6_bestDiscipline_4 rfl (Nat.le_of_ble_eq_true rfl) ⟨Nat.le_of_ble_eq_true rfl, Nat.le_of_ble_eq_true rfl⟩ ⟨Nat.zero_le _, Nat.zero_le _⟩ (fun H locs hP hD hS => ?_)
  refine x_if_ne (tgt := 12) C h dX6_bestDiscipline_7 (by decide) (fun h => ?_) (fun h => ?_)
  · refine x_iconst (v := (0 : Int32)) C dX6_bestDiscipline_12 (by decide) ?_
    refine x_istore_n (lv' := [(2, .int (0 : Int32)), (0, .ref (aM 0)), (1, .int p1)]) C dX6_bestDiscipline_13 rfl hl (by decide) rfl (fun ls hl => ?_)
    refine x_aload_n C dX6_bestDiscipline_14 rfl hl 1 rfl ?_
    refine x_iload_n C dX6_bestDiscipline_15 rfl hl 2 rfl ?_
    refine x_iconst (v := (0 : Int32)) C dX6_bestDiscipline_16 (by decide) ?_
    obtain ⟨u6, hu6, h⟩ := ob_some h
    refine x_callV (As := [.int _, .int _]) (n := 2) C (kX6_tries l D cI cS aM _ _ _ hu6) (fun hh => nomatch hh) wm_X6_163 wi_X6_tries we_X6_tries wz_X6 wc_X6_tries (by decide +kernel) rfl hP hD hS hA 0 3 rfl rfl rfl hl.1 dX6_bestDiscipline_17 rfl (Nat.le_of_ble_eq_true rfl) ⟨Nat.le_of_ble_eq_true rfl, Nat.le_of_ble_eq_true rfl⟩ ⟨Nat.zero_le _, Nat.zero_le _⟩ (fun H locs hP hD hS => ?_)
    refine x_istore_n (lv' := [(3, .int u6.1), (2, .int (0 : Int32)), (0, .ref (aM 0)), (1, .int p1)]) C dX6_bestDiscipline_20 rfl hl (by decide) rfl (fun ls hl => ?_)
    refine x_iconst (v := (1 : Int32)) C dX6_bestDiscipline_21 (by decide) ?_
    refine x_istore (lv' := [(4, .int (1 : Int32)), (3, .int u6.1), (2, .int (0 : Int32)), (0, .ref (aM 0)), (1, .int p1)]) C dX6_bestDiscipline_22 hl (by decide) rfl (fun ls hl => ?_)
    exact B24 FU _ h _ _ _ hP hD hS (lv_sub hl [3, 4, 2, 1, 0] rfl)
  · refine x_iconst (v := (-1 : Int32)) C dX6_bestDiscipline_10 (by decide) ?_
    exact RETh dX6_bestDiscipline_11 h hP hD hS
theorem dX6_busy_0 : decode cX6_busy 0 = .ok (.iconst 0, 1) := by decide +kernel
theorem dX6_busy_1 : decode cX6_busy 1 = .ok (.istore_n 2, 1) := by decide +kernel
theorem dX6_busy_2 : decode cX6_busy 2 = .ok (.iconst 0, 1) := by decide +kernel
theorem dX6_busy_3 : decode cX6_busy 3 = .ok (.istore_n 3, 1) := by decide +kernel
theorem dX6_busy_4 : decode cX6_busy 4 = .ok (.iload_n 3, 1) := by decide +kernel
theorem dX6_busy_5 : decode cX6_busy 5 = .ok (.iconst 4, 1) := by decide +kernel
theorem dX6_busy_6 : decode cX6_busy 6 = .ok (.if_icmp .ge 30, 3) := by decide +kernel
theorem dX6_busy_9 : decode cX6_busy 9 = .ok (.iload_n 2, 1) := by decide +kernel
theorem dX6_busy_10 : decode cX6_busy 10 = .ok (.aload_n 0, 1) := by decide +kernel
theorem dX6_busy_11 : decode cX6_busy 11 = .ok (.getfield 7, 3) := by decide +kernel
theorem dX6_busy_14 : decode cX6_busy 14 = .ok (.iload_n 1, 1) := by decide +kernel
theorem dX6_busy_15 : decode cX6_busy 15 = .ok (.iload_n 3, 1) := by decide +kernel
theorem dX6_busy_16 : decode cX6_busy 16 = .ok (.iadd, 1) := by decide +kernel
theorem dX6_busy_17 : decode cX6_busy 17 = .ok (.iaload, 1) := by decide +kernel
theorem dX6_busy_18 : decode cX6_busy 18 = .ok (.bipush (-9), 2) := by decide +kernel
theorem dX6_busy_20 : decode cX6_busy 20 = .ok (.if_icmp .ne 7, 3) := by decide +kernel
theorem dX6_busy_23 : decode cX6_busy 23 = .ok (.iconst 0, 1) := by decide +kernel
theorem dX6_busy_24 : decode cX6_busy 24 = .ok (.goto 4, 3) := by decide +kernel
theorem dX6_busy_27 : decode cX6_busy 27 = .ok (.iconst 1, 1) := by decide +kernel
theorem dX6_busy_28 : decode cX6_busy 28 = .ok (.iadd, 1) := by decide +kernel
theorem dX6_busy_29 : decode cX6_busy 29 = .ok (.istore_n 2, 1) := by decide +kernel
theorem dX6_busy_30 : decode cX6_busy 30 = .ok (.iinc 3 1, 3) := by decide +kernel
theorem dX6_busy_33 : decode cX6_busy 33 = .ok (.goto (-29), 3) := by decide +kernel
theorem dX6_busy_36 : decode cX6_busy 36 = .ok (.iload_n 2, 1) := by decide +kernel
theorem dX6_busy_37 : decode cX6_busy 37 = .ok (.ireturn, 1) := by decide +kernel
def bfX6_busy_28 (p1 : Int32) (S : MS) (K4 : Int32 × Int32 → Option (Int32)) (x3 : Int32) (s0 : Int32) (s1 : Int32) : Option (Int32) :=
  nm ((s0 + s1)) fun v2 => K4 (v2, (x3 + (1 : Int32)))
def bfX6_busy_4 (p1 : Int32) (S : MS) (K4 : Int32 × Int32 → Option (Int32)) (x : Int32 × Int32) : Option (Int32) :=
  match x with
  | (x2, x3) => (if (4 : Int32) ≤ x3 then some x2 else (if okI (p1 + x3) 5130 then (if (S.1 ((p1 + x3)).toNatClampNeg) = (-9 : Int32) then bfX6_busy_28 p1 S K4 x3 x2 ((0 : Int32)) else bfX6_busy_28 p1 S K4 x3 x2 ((1 : Int32))) else none))
def fX6_busy (p1 : Int32) (S : MS) : Option (Int32) :=
  iter (bfX6_busy_4 p1 S) FU ((0 : Int32), (0 : Int32))
set_option maxHeartbeats 4000000 in
set_option maxRecDepth 100000 in
theorem kX6_busy (l : Launch) (D : va_G) (cI cS : ClassId) (aM : Nat → Nat) (p1 : Int32) (S : MS) {q : Int32} (h : fX6_busy p1 S = some q) : Mc l D (tyL cI cS) false yX6_busy cX6_busy 4 (some .int) 1 [.ref (aM 0), .int p1] (wM cI aM S) (some (.int q)) (wM cI aM S) := by
  refine Mc_of RX6 (by decide +kernel) rfl wc_X6_busy (Nat.le_of_ble_eq_true rfl) ?_
  intro p e s m args below meth c A Q ls C hA hz hP hD hS hl RET
  have RETh : ∀ {pc : Nat} {ls : Array Slot} {H : Heap} {locs : List Loc} {x : Int32} , decode cX6_busy pc = .ok (.ireturn, 1) → some x = some q → va_P D vwCl (wM cI aM S) H → va_D A (wM cI aM S) → va_S A s.heap H locs → W p l e (rmL 1) s m args below meth c H locs 0 0 Q (F0 m pc ls [.int x]) := by
    intro pc ls H locs x hd h hP hD hS; cases h; exact RET (x_iret C hd) hP hD hS
  have B28 : ∀ (K4 : Int32 × Int32 → Option (Int32)) (ih4 : ∀ x, K4 x = some q → (match x with | (x2, x3) => ∀ (H : Heap) (locs : List Loc) (ls : Array Slot), va_P D vwCl (wM cI aM S) H → va_D A (wM cI aM S) → va_S A s.heap H locs → lv_has ls 4 [(0, .ref (aM 0)), (1, .int p1), (2, .int x2), (3, .int x3)] → W p l e (rmL 1) s m args below meth c H locs 0 0 Q (F0 m 4 ls []))) (x3 : Int32) (s0 : Int32) (s1 : Int32), bfX6_busy_28 p1 S K4 x3 s0 s1 = some q → ∀ (H : Heap) (locs : List Loc) (ls : Array Slot), va_P D vwCl (wM cI aM S) H → va_D A (wM cI aM S) → va_S A s.heap H locs → lv_has ls 4 [(0, .ref (aM 0)), (1, .int p1), (3, .int x3)] → W p l e (rmL 1) s m args below meth c H locs 0 0 Q (F0 m 28 ls [.int s1, .int s0]) := by
    intro K4 ih4 x3 s0 s1 h H locs ls hP hD hS hl
    refine x_iadd C dX6_busy_28 ?_
    refine x_nmi h (fun v2 h => ?_)
    refine x_istore_n (lv' := [(2, .int v2), (0, .ref (aM 0)), (1, .int p1), (3, .int x3)]) C dX6_busy_29 rfl hl (by decide) rfl (fun ls hl => ?_)
    refine x_iinc (v := (x3 + (1 : Int32))) (lv' := [(3, .int (x3 + (1 : Int32))), (2, .int v2), (0, .ref (aM 0)), (1, .int p1)]) C dX6_busy_30 hl (k := 3) rfl rfl (by decide) rfl (fun ls hl => ?_)
    refine x_goto (tgt := 4) C dX6_busy_33 (by decide) ?_
    exact ih4 _ h _ _ _ hP hD hS (lv_sub hl [2, 3, 1, 0] rfl)
  have B4 : ∀ (n : Nat) (x : Int32 × Int32), iter (bfX6_busy_4 p1 S) n x = some q → (match x with | (x2, x3) => ∀ (H : Heap) (locs : List Loc) (ls : Array Slot), va_P D vwCl (wM cI aM S) H → va_D A (wM cI aM S) → va_S A s.heap H locs → lv_has ls 4 [(0, .ref (aM 0)), (1, .int p1), (2, .int x2), (3, .int x3)] → W p l e (rmL 1) s m args below meth c H locs 0 0 Q (F0 m 4 ls [])) := by
    refine iter_ind (fun x : Int32 × Int32 => (match x with | (x2, x3) => ∀ (H : Heap) (locs : List Loc) (ls : Array Slot), va_P D vwCl (wM cI aM S) H → va_D A (wM cI aM S) → va_S A s.heap H locs → lv_has ls 4 [(0, .ref (aM 0)), (1, .int p1), (2, .int x2), (3, .int x3)] → W p l e (rmL 1) s m args below meth c H locs 0 0 Q (F0 m 4 ls []))) ?_
    intro K4 ih4 x h
    obtain ⟨x2, x3⟩ := x
    intro H locs ls hP hD hS hl
    refine x_iload_n C dX6_busy_4 rfl hl 3 rfl ?_
    refine x_iconst (v := (4 : Int32)) C dX6_busy_5 (by decide) ?_
    refine x_icmp_ge (tgt := 36) C h dX6_busy_6 (by decide) (fun h => ?_) (fun h => ?_)
    · refine x_iload_n C dX6_busy_36 rfl hl 2 rfl ?_
      exact RETh dX6_busy_37 h hP hD hS
    · refine x_iload_n C dX6_busy_9 rfl hl 2 rfl ?_
      refine x_aload_n C dX6_busy_10 rfl hl 0 rfl ?_
      refine x_get C inX6 hP 0 rfl rfl 0 (by decide) wf_X6_7 rfl dX6_busy_11 ?_
      refine x_iload_n C dX6_busy_14 rfl hl 1 rfl ?_
      refine x_iload_n C dX6_busy_15 rfl hl 3 rfl ?_
      refine x_iadd C dX6_busy_16 ?_
      refine x_iald C h hP 1 rfl (t0 := 0) rfl dX6_busy_17 (fun h => ?_)
      refine x_bipush (v := (-9 : Int32)) C dX6_busy_18 (by decide) ?_
      refine x_icmp_ne (tgt := 27) C h dX6_busy_20 (by decide) (fun h => ?_) (fun h => ?_)
      · refine x_iconst (v := (1 : Int32)) C dX6_busy_27 (by decide) ?_
        exact B28 K4 ih4 _ _ _ h _ _ _ hP hD hS (lv_sub hl [0, 1, 3] rfl)
      · refine x_iconst (v := (0 : Int32)) C dX6_busy_23 (by decide) ?_
        refine x_goto (tgt := 28) C dX6_busy_24 (by decide) ?_
        exact B28 K4 ih4 _ _ _ h _ _ _ hP hD hS (lv_sub hl [0, 1, 3] rfl)
  refine x_iconst (v := (0 : Int32)) C dX6_busy_0 (by decide) ?_
  refine x_istore_n (lv' := [(2, .int (0 : Int32)), (0, .ref (aM 0)), (1, .int p1)]) C dX6_busy_1 rfl hl (by decide) rfl (fun ls hl => ?_)
  refine x_iconst (v := (0 : Int32)) C dX6_busy_2 (by decide) ?_
  refine x_istore_n (lv' := [(3, .int (0 : Int32)), (2, .int (0 : Int32)), (0, .ref (aM 0)), (1, .int p1)]) C dX6_busy_3 rfl hl (by decide) rfl (fun ls hl => ?_)
  exact B4 FU _ h _ _ _ hP hD hS (lv_sub hl [2, 3, 1, 0] rfl)
theorem dX6_isClient_0 : decode cX6_isClient 0 = .ok (.iload_n 0, 1) := by decide +kernel
theorem dX6_isClient_1 : decode cX6_isClient 1 = .ok (.iconst 0, 1) := by decide +kernel
theorem dX6_isClient_2 : decode cX6_isClient 2 = .ok (.iconst 5, 1) := by decide +kernel
theorem dX6_isClient_3 : decode cX6_isClient 3 = .ok (.invokestatic 33, 3) := by decide +kernel
theorem dX6_isClient_6 : decode cX6_isClient 6 = .ok (.ireturn, 1) := by decide +kernel
def fX6_isClient (p1 : Int32) : Option (Int32) :=
  ob (fX6_in p1 (0 : Int32) (5 : Int32)) fun u2 => (if u2 = 0 ∨ u2 = 1 then some u2 else none)
set_option maxHeartbeats 4000000 in
set_option maxRecDepth 100000 in
theorem kX6_isClient (l : Launch) (D : va_G) (cI cS : ClassId) (ws : va_W) (p1 : Int32) {q : Int32} (h : fX6_isClient p1 = some q) : Mc l D (tyL cI cS) false yX6_isClient cX6_isClient 1 (some .boolean) 2 [.int p1] (ws) (some (.int q)) (ws) := by
  refine Mc_of RX6 (by decide +kernel) rfl wc_X6_isClient (Nat.le_of_ble_eq_true rfl) ?_
  intro p e s m args below meth c A Q ls C hA hz hP hD hS hl RET
  have RETh : ∀ {pc : Nat} {ls : Array Slot} {H : Heap} {locs : List Loc} {x : Int32} , (x = 0 ∨ x = 1) → decode cX6_isClient pc = .ok (.ireturn, 1) → some x = some q → va_P D vwCl (ws) H → va_D A (ws) → va_S A s.heap H locs → W p l e (rmL 2) s m args below meth c H locs 0 0 Q (F0 m pc ls [.int x]) := by
    intro pc ls H locs x hx hd h hP hD hS; cases h; exact RET (x_zret C hx hd) hP hD hS
  refine x_iload_n C dX6_isClient_0 rfl hl 0 rfl ?_
  refine x_iconst (v := (0 : Int32)) C dX6_isClient_1 (by decide) ?_
  refine x_iconst (v := (5 : Int32)) C dX6_isClient_2 (by decide) ?_
  obtain ⟨u2, hu2, h⟩ := ob_some h
  refine x_callS (As := [.int _, .int _, .int _]) (n := 3) C (kX6_in l D cI cS _ _ _ _ hu2) (fun hh => nomatch hh) wm_X6_33 wt_X6_in wz_X6 wc_X6_in (by decide +kernel) rfl hP hD hS hA hl.1 dX6_isClient_3 rfl (Nat.le_of_ble_eq_true rfl) ⟨Nat.le_of_ble_eq_true rfl, Nat.le_of_ble_eq_true rfl⟩ ⟨Nat.zero_le _, Nat.zero_le _⟩ (fun H locs hP hD hS => ?_)
  rcases x_ifn h with ⟨hc, h⟩
  exact RETh hc dX6_isClient_6 h hP hD hS
theorem dX6_count_0 : decode cX6_count 0 = .ok (.iload_n 1, 1) := by decide +kernel
theorem dX6_count_1 : decode cX6_count 1 = .ok (.invokestatic 37, 3) := by decide +kernel
theorem dX6_count_4 : decode cX6_count 4 = .ok (.ifCond .eq 30, 3) := by decide +kernel
theorem dX6_count_7 : decode cX6_count 7 = .ok (.iload_n 2, 1) := by decide +kernel
theorem dX6_count_8 : decode cX6_count 8 = .ok (.iconst 0, 1) := by decide +kernel
theorem dX6_count_9 : decode cX6_count 9 = .ok (.bipush 7, 2) := by decide +kernel
theorem dX6_count_11 : decode cX6_count 11 = .ok (.invokestatic 33, 3) := by decide +kernel
theorem dX6_count_14 : decode cX6_count 14 = .ok (.ifCond .eq 20, 3) := by decide +kernel
theorem dX6_count_17 : decode cX6_count 17 = .ok (.aload_n 0, 1) := by decide +kernel
theorem dX6_count_18 : decode cX6_count 18 = .ok (.getfield 7, 3) := by decide +kernel
theorem dX6_count_21 : decode cX6_count 21 = .ok (.bipush 90, 2) := by decide +kernel
theorem dX6_count_23 : decode cX6_count 23 = .ok (.bipush 8, 2) := by decide +kernel
theorem dX6_count_25 : decode cX6_count 25 = .ok (.iload_n 1, 1) := by decide +kernel
theorem dX6_count_26 : decode cX6_count 26 = .ok (.imul, 1) := by decide +kernel
theorem dX6_count_27 : decode cX6_count 27 = .ok (.iadd, 1) := by decide +kernel
theorem dX6_count_28 : decode cX6_count 28 = .ok (.iload_n 2, 1) := by decide +kernel
theorem dX6_count_29 : decode cX6_count 29 = .ok (.iadd, 1) := by decide +kernel
theorem dX6_count_30 : decode cX6_count 30 = .ok (.iaload, 1) := by decide +kernel
theorem dX6_count_31 : decode cX6_count 31 = .ok (.goto 4, 3) := by decide +kernel
theorem dX6_count_34 : decode cX6_count 34 = .ok (.iconst (-1), 1) := by decide +kernel
theorem dX6_count_35 : decode cX6_count 35 = .ok (.ireturn, 1) := by decide +kernel
def bfX6_count_35 (p1 : Int32) (p2 : Int32) (S : MS) (s0 : Int32) : Option (Int32) :=
  some s0
def bfX6_count_34 (p1 : Int32) (p2 : Int32) (S : MS) : Option (Int32) :=
  bfX6_count_35 p1 p2 S  ((-1 : Int32))
def fX6_count (p1 : Int32) (p2 : Int32) (S : MS) : Option (Int32) :=
  ob (fX6_isClient p1) fun u3 => (if u3 = 0 then bfX6_count_34 p1 p2 S else ob (fX6_in p2 (0 : Int32) (7 : Int32)) fun u4 => (if u4 = 0 then bfX6_count_34 p1 p2 S else (if okI (((90 : Int32) + ((8 : Int32) * p1)) + p2) 5130 then bfX6_count_35 p1 p2 S  ((S.1 ((((90 : Int32) + ((8 : Int32) * p1)) + p2)).toNatClampNeg)) else none)))
set_option maxHeartbeats 4000000 in
set_option maxRecDepth 100000 in
theorem kX6_count (l : Launch) (D : va_G) (cI cS : ClassId) (aM : Nat → Nat) (p1 : Int32) (p2 : Int32) (S : MS) {q : Int32} (h : fX6_count p1 p2 S = some q) : Mc l D (tyL cI cS) false yX6_count cX6_count 3 (some .int) 3 [.ref (aM 0), .int p1, .int p2] (wM cI aM S) (some (.int q)) (wM cI aM S) := by
  refine Mc_of RX6 (by decide +kernel) rfl wc_X6_count (Nat.le_of_ble_eq_true rfl) ?_
  intro p e s m args below meth c A Q ls C hA hz hP hD hS hl RET
  have RETh : ∀ {pc : Nat} {ls : Array Slot} {H : Heap} {locs : List Loc} {x : Int32} , decode cX6_count pc = .ok (.ireturn, 1) → some x = some q → va_P D vwCl (wM cI aM S) H → va_D A (wM cI aM S) → va_S A s.heap H locs → W p l e (rmL 3) s m args below meth c H locs 0 0 Q (F0 m pc ls [.int x]) := by
    intro pc ls H locs x hd h hP hD hS; cases h; exact RET (x_iret C hd) hP hD hS
  have B35 : ∀ (s0 : Int32), bfX6_count_35 p1 p2 S s0 = some q → ∀ (H : Heap) (locs : List Loc) (ls : Array Slot), va_P D vwCl (wM cI aM S) H → va_D A (wM cI aM S) → va_S A s.heap H locs → lv_has ls 3 [] → W p l e (rmL 3) s m args below meth c H locs 0 0 Q (F0 m 35 ls [.int s0]) := by
    intro s0 h H locs ls hP hD hS hl
    exact RETh dX6_count_35 h hP hD hS
  have B34 : bfX6_count_34 p1 p2 S = some q → ∀ (H : Heap) (locs : List Loc) (ls : Array Slot), va_P D vwCl (wM cI aM S) H → va_D A (wM cI aM S) → va_S A s.heap H locs → lv_has ls 3 [] → W p l e (rmL 3) s m args below meth c H locs 0 0 Q (F0 m 34 ls []) := by
    intro  h H locs ls hP hD hS hl
    refine x_iconst (v := (-1 : Int32)) C dX6_count_34 (by decide) ?_
    exact B35 _ h _ _ _ hP hD hS hl
  refine x_iload_n C dX6_count_0 rfl hl 1 rfl ?_
  obtain ⟨u3, hu3, h⟩ := ob_some h
  refine x_callS (As := [.int _]) (n := 1) C (kX6_isClient l D cI cS _ _ hu3) (fun hh => nomatch hh) wm_X6_37 wt_X6_isClient wz_X6 wc_X6_isClient (by decide +kernel) rfl hP hD hS hA hl.1 dX6_count_1 rfl (Nat.le_of_ble_eq_true rfl) ⟨Nat.le_of_ble_eq_true rfl, Nat.le_of_ble_eq_true rfl⟩ ⟨Nat.zero_le _, Nat.zero_le _⟩ (fun H locs hP hD hS => ?_)
  refine x_if_eq (tgt := 34) C h dX6_count_4 (by decide) (fun h => ?_) (fun h => ?_)
  · exact B34  h _ _ _ hP hD hS (lv_sub hl [] rfl)
  · refine x_iload_n C dX6_count_7 rfl hl 2 rfl ?_
    refine x_iconst (v := (0 : Int32)) C dX6_count_8 (by decide) ?_
    refine x_bipush (v := (7 : Int32)) C dX6_count_9 (by decide) ?_
    obtain ⟨u4, hu4, h⟩ := ob_some h
    refine x_callS (As := [.int _, .int _, .int _]) (n := 3) C (kX6_in l D cI cS _ _ _ _ hu4) (fun hh => nomatch hh) wm_X6_33 wt_X6_in wz_X6 wc_X6_in (by decide +kernel) rfl hP hD hS hA hl.1 dX6_count_11 rfl (Nat.le_of_ble_eq_true rfl) ⟨Nat.le_of_ble_eq_true rfl, Nat.le_of_ble_eq_true rfl⟩ ⟨Nat.zero_le _, Nat.zero_le _⟩ (fun H locs hP hD hS => ?_)
    refine x_if_eq (tgt := 34) C h dX6_count_14 (by decide) (fun h => ?_) (fun h => ?_)
    · exact B34  h _ _ _ hP hD hS (lv_sub hl [] rfl)
    · refine x_aload_n C dX6_count_17 rfl hl 0 rfl ?_
      refine x_get C inX6 hP 0 rfl rfl 0 (by decide) wf_X6_7 rfl dX6_count_18 ?_
      refine x_bipush (v := (90 : Int32)) C dX6_count_21 (by decide) ?_
      refine x_bipush (v := (8 : Int32)) C dX6_count_23 (by decide) ?_
      refine x_iload_n C dX6_count_25 rfl hl 1 rfl ?_
      refine x_imul C dX6_count_26 ?_
      refine x_iadd C dX6_count_27 ?_
      refine x_iload_n C dX6_count_28 rfl hl 2 rfl ?_
      refine x_iadd C dX6_count_29 ?_
      refine x_iald C h hP 1 rfl (t0 := 0) rfl dX6_count_30 (fun h => ?_)
      refine x_goto (tgt := 35) C dX6_count_31 (by decide) ?_
      exact B35 _ h _ _ _ hP hD hS (lv_sub hl [] rfl)
