theorem dX2_init_0 : decode cX2_init 0 = .ok (.aload_n 0, 1) := by decide +kernel
theorem dX2_init_1 : decode cX2_init 1 = .ok (.invokespecial 3, 3) := by decide +kernel
theorem dX2_init_4 : decode cX2_init 4 = .ok (.aload_n 0, 1) := by decide +kernel
theorem dX2_init_5 : decode cX2_init 5 = .ok (.new 9, 3) := by decide +kernel
theorem dX2_init_8 : decode cX2_init 8 = .ok (.dup, 1) := by decide +kernel
theorem dX2_init_9 : decode cX2_init 9 = .ok (.bipush 6, 2) := by decide +kernel
theorem dX2_init_11 : decode cX2_init 11 = .ok (.bipush 12, 2) := by decide +kernel
theorem dX2_init_13 : decode cX2_init 13 = .ok (.bipush 6, 2) := by decide +kernel
theorem dX2_init_15 : decode cX2_init 15 = .ok (.invokespecial 11, 3) := by decide +kernel
theorem dX2_init_18 : decode cX2_init 18 = .ok (.putfield 14, 3) := by decide +kernel
theorem dX2_init_21 : decode cX2_init 21 = .ok (.aload_n 0, 1) := by decide +kernel
theorem dX2_init_22 : decode cX2_init 22 = .ok (.new 9, 3) := by decide +kernel
theorem dX2_init_25 : decode cX2_init 25 = .ok (.dup, 1) := by decide +kernel
theorem dX2_init_26 : decode cX2_init 26 = .ok (.bipush 6, 2) := by decide +kernel
theorem dX2_init_28 : decode cX2_init 28 = .ok (.bipush 14, 2) := by decide +kernel
theorem dX2_init_30 : decode cX2_init 30 = .ok (.bipush 6, 2) := by decide +kernel
theorem dX2_init_32 : decode cX2_init 32 = .ok (.invokespecial 11, 3) := by decide +kernel
theorem dX2_init_35 : decode cX2_init 35 = .ok (.putfield 20, 3) := by decide +kernel
theorem dX2_init_38 : decode cX2_init 38 = .ok (.aload_n 0, 1) := by decide +kernel
theorem dX2_init_39 : decode cX2_init 39 = .ok (.new 9, 3) := by decide +kernel
theorem dX2_init_42 : decode cX2_init 42 = .ok (.dup, 1) := by decide +kernel
theorem dX2_init_43 : decode cX2_init 43 = .ok (.bipush 6, 2) := by decide +kernel
theorem dX2_init_45 : decode cX2_init 45 = .ok (.iconst 3, 1) := by decide +kernel
theorem dX2_init_46 : decode cX2_init 46 = .ok (.bipush 6, 2) := by decide +kernel
theorem dX2_init_48 : decode cX2_init 48 = .ok (.invokespecial 11, 3) := by decide +kernel
theorem dX2_init_51 : decode cX2_init 51 = .ok (.putfield 23, 3) := by decide +kernel
theorem dX2_init_54 : decode cX2_init 54 = .ok (.aload_n 0, 1) := by decide +kernel
theorem dX2_init_55 : decode cX2_init 55 = .ok (.new 9, 3) := by decide +kernel
theorem dX2_init_58 : decode cX2_init 58 = .ok (.dup, 1) := by decide +kernel
theorem dX2_init_59 : decode cX2_init 59 = .ok (.iconst 4, 1) := by decide +kernel
theorem dX2_init_60 : decode cX2_init 60 = .ok (.iconst 1, 1) := by decide +kernel
theorem dX2_init_61 : decode cX2_init 61 = .ok (.iconst 4, 1) := by decide +kernel
theorem dX2_init_62 : decode cX2_init 62 = .ok (.invokespecial 11, 3) := by decide +kernel
theorem dX2_init_65 : decode cX2_init 65 = .ok (.putfield 26, 3) := by decide +kernel
theorem dX2_init_68 : decode cX2_init 68 = .ok (.aload_n 0, 1) := by decide +kernel
theorem dX2_init_69 : decode cX2_init 69 = .ok (.new 9, 3) := by decide +kernel
theorem dX2_init_72 : decode cX2_init 72 = .ok (.dup, 1) := by decide +kernel
theorem dX2_init_73 : decode cX2_init 73 = .ok (.iconst 3, 1) := by decide +kernel
theorem dX2_init_74 : decode cX2_init 74 = .ok (.iconst 1, 1) := by decide +kernel
theorem dX2_init_75 : decode cX2_init 75 = .ok (.iconst 3, 1) := by decide +kernel
theorem dX2_init_76 : decode cX2_init 76 = .ok (.invokespecial 11, 3) := by decide +kernel
theorem dX2_init_79 : decode cX2_init 79 = .ok (.putfield 29, 3) := by decide +kernel
theorem dX2_init_82 : decode cX2_init 82 = .ok (.aload_n 0, 1) := by decide +kernel
theorem dX2_init_83 : decode cX2_init 83 = .ok (.new 9, 3) := by decide +kernel
theorem dX2_init_86 : decode cX2_init 86 = .ok (.dup, 1) := by decide +kernel
theorem dX2_init_87 : decode cX2_init 87 = .ok (.bipush 16, 2) := by decide +kernel
theorem dX2_init_89 : decode cX2_init 89 = .ok (.bipush 7, 2) := by decide +kernel
theorem dX2_init_91 : decode cX2_init 91 = .ok (.iconst 0, 1) := by decide +kernel
theorem dX2_init_92 : decode cX2_init 92 = .ok (.invokespecial 11, 3) := by decide +kernel
theorem dX2_init_95 : decode cX2_init 95 = .ok (.putfield 32, 3) := by decide +kernel
theorem dX2_init_98 : decode cX2_init 98 = .ok (.aload_n 0, 1) := by decide +kernel
theorem dX2_init_99 : decode cX2_init 99 = .ok (.new 9, 3) := by decide +kernel
theorem dX2_init_102 : decode cX2_init 102 = .ok (.dup, 1) := by decide +kernel
theorem dX2_init_103 : decode cX2_init 103 = .ok (.bipush 16, 2) := by decide +kernel
theorem dX2_init_105 : decode cX2_init 105 = .ok (.bipush 6, 2) := by decide +kernel
theorem dX2_init_107 : decode cX2_init 107 = .ok (.iconst 0, 1) := by decide +kernel
theorem dX2_init_108 : decode cX2_init 108 = .ok (.invokespecial 11, 3) := by decide +kernel
theorem dX2_init_111 : decode cX2_init 111 = .ok (.putfield 35, 3) := by decide +kernel
theorem dX2_init_114 : decode cX2_init 114 = .ok (.aload_n 0, 1) := by decide +kernel
theorem dX2_init_115 : decode cX2_init 115 = .ok (.new 9, 3) := by decide +kernel
theorem dX2_init_118 : decode cX2_init 118 = .ok (.dup, 1) := by decide +kernel
theorem dX2_init_119 : decode cX2_init 119 = .ok (.iconst 4, 1) := by decide +kernel
theorem dX2_init_120 : decode cX2_init 120 = .ok (.bipush 6, 2) := by decide +kernel
theorem dX2_init_122 : decode cX2_init 122 = .ok (.iconst 4, 1) := by decide +kernel
theorem dX2_init_123 : decode cX2_init 123 = .ok (.invokespecial 11, 3) := by decide +kernel
theorem dX2_init_126 : decode cX2_init 126 = .ok (.putfield 38, 3) := by decide +kernel
theorem dX2_init_129 : decode cX2_init 129 = .ok (.aload_n 0, 1) := by decide +kernel
theorem dX2_init_130 : decode cX2_init 130 = .ok (.new 9, 3) := by decide +kernel
theorem dX2_init_133 : decode cX2_init 133 = .ok (.dup, 1) := by decide +kernel
theorem dX2_init_134 : decode cX2_init 134 = .ok (.bipush 16, 2) := by decide +kernel
theorem dX2_init_136 : decode cX2_init 136 = .ok (.iconst 1, 1) := by decide +kernel
theorem dX2_init_137 : decode cX2_init 137 = .ok (.iconst 0, 1) := by decide +kernel
theorem dX2_init_138 : decode cX2_init 138 = .ok (.invokespecial 11, 3) := by decide +kernel
theorem dX2_init_141 : decode cX2_init 141 = .ok (.putfield 41, 3) := by decide +kernel
theorem dX2_init_144 : decode cX2_init 144 = .ok (.aload_n 0, 1) := by decide +kernel
theorem dX2_init_145 : decode cX2_init 145 = .ok (.new 9, 3) := by decide +kernel
theorem dX2_init_148 : decode cX2_init 148 = .ok (.dup, 1) := by decide +kernel
theorem dX2_init_149 : decode cX2_init 149 = .ok (.iconst 4, 1) := by decide +kernel
theorem dX2_init_150 : decode cX2_init 150 = .ok (.iconst 1, 1) := by decide +kernel
theorem dX2_init_151 : decode cX2_init 151 = .ok (.iconst 4, 1) := by decide +kernel
theorem dX2_init_152 : decode cX2_init 152 = .ok (.invokespecial 11, 3) := by decide +kernel
theorem dX2_init_155 : decode cX2_init 155 = .ok (.putfield 44, 3) := by decide +kernel
theorem dX2_init_158 : decode cX2_init 158 = .ok (.aload_n 0, 1) := by decide +kernel
theorem dX2_init_159 : decode cX2_init 159 = .ok (.new 9, 3) := by decide +kernel
theorem dX2_init_162 : decode cX2_init 162 = .ok (.dup, 1) := by decide +kernel
theorem dX2_init_163 : decode cX2_init 163 = .ok (.bipush 64, 2) := by decide +kernel
theorem dX2_init_165 : decode cX2_init 165 = .ok (.iconst 4, 1) := by decide +kernel
theorem dX2_init_166 : decode cX2_init 166 = .ok (.bipush 64, 2) := by decide +kernel
theorem dX2_init_168 : decode cX2_init 168 = .ok (.invokespecial 11, 3) := by decide +kernel
theorem dX2_init_171 : decode cX2_init 171 = .ok (.putfield 47, 3) := by decide +kernel
theorem dX2_init_174 : decode cX2_init 174 = .ok (.aload_n 0, 1) := by decide +kernel
theorem dX2_init_175 : decode cX2_init 175 = .ok (.iconst 1, 1) := by decide +kernel
theorem dX2_init_176 : decode cX2_init 176 = .ok (.putfield 50, 3) := by decide +kernel
theorem dX2_init_179 : decode cX2_init 179 = .ok (.iconst 0, 1) := by decide +kernel
theorem dX2_init_180 : decode cX2_init 180 = .ok (.istore_n 1, 1) := by decide +kernel
theorem dX2_init_181 : decode cX2_init 181 = .ok (.iload_n 1, 1) := by decide +kernel
theorem dX2_init_182 : decode cX2_init 182 = .ok (.bipush 12, 2) := by decide +kernel
theorem dX2_init_184 : decode cX2_init 184 = .ok (.if_icmp .ge 22, 3) := by decide +kernel
theorem dX2_init_187 : decode cX2_init 187 = .ok (.aload_n 0, 1) := by decide +kernel
theorem dX2_init_188 : decode cX2_init 188 = .ok (.getfield 14, 3) := by decide +kernel
theorem dX2_init_191 : decode cX2_init 191 = .ok (.iload_n 1, 1) := by decide +kernel
theorem dX2_init_192 : decode cX2_init 192 = .ok (.getstatic 54, 3) := by decide +kernel
theorem dX2_init_195 : decode cX2_init 195 = .ok (.iload_n 1, 1) := by decide +kernel
theorem dX2_init_196 : decode cX2_init 196 = .ok (.iaload, 1) := by decide +kernel
theorem dX2_init_197 : decode cX2_init 197 = .ok (.invokevirtual 58, 3) := by decide +kernel
theorem dX2_init_200 : decode cX2_init 200 = .ok (.iinc 1 1, 3) := by decide +kernel
theorem dX2_init_203 : decode cX2_init 203 = .ok (.goto (-22), 3) := by decide +kernel
theorem dX2_init_206 : decode cX2_init 206 = .ok (.aload_n 0, 1) := by decide +kernel
theorem dX2_init_207 : decode cX2_init 207 = .ok (.getfield 20, 3) := by decide +kernel
theorem dX2_init_210 : decode cX2_init 210 = .ok (.bipush 7, 2) := by decide +kernel
theorem dX2_init_212 : decode cX2_init 212 = .ok (.bipush 10, 2) := by decide +kernel
theorem dX2_init_214 : decode cX2_init 214 = .ok (.getstatic 54, 3) := by decide +kernel
theorem dX2_init_217 : decode cX2_init 217 = .ok (.bipush 10, 2) := by decide +kernel
theorem dX2_init_219 : decode cX2_init 219 = .ok (.iaload, 1) := by decide +kernel
theorem dX2_init_220 : decode cX2_init 220 = .ok (.imul, 1) := by decide +kernel
theorem dX2_init_221 : decode cX2_init 221 = .ok (.invokevirtual 58, 3) := by decide +kernel
theorem dX2_init_224 : decode cX2_init 224 = .ok (.aload_n 0, 1) := by decide +kernel
theorem dX2_init_225 : decode cX2_init 225 = .ok (.getfield 26, 3) := by decide +kernel
theorem dX2_init_228 : decode cX2_init 228 = .ok (.iconst 0, 1) := by decide +kernel
theorem dX2_init_229 : decode cX2_init 229 = .ok (.iconst 0, 1) := by decide +kernel
theorem dX2_init_230 : decode cX2_init 230 = .ok (.iconst 2, 1) := by decide +kernel
theorem dX2_init_231 : decode cX2_init 231 = .ok (.invokevirtual 62, 3) := by decide +kernel
theorem dX2_init_234 : decode cX2_init 234 = .ok (.aload_n 0, 1) := by decide +kernel
theorem dX2_init_235 : decode cX2_init 235 = .ok (.getfield 26, 3) := by decide +kernel
theorem dX2_init_238 : decode cX2_init 238 = .ok (.iconst 1, 1) := by decide +kernel
theorem dX2_init_239 : decode cX2_init 239 = .ok (.iconst 0, 1) := by decide +kernel
theorem dX2_init_240 : decode cX2_init 240 = .ok (.bipush 8, 2) := by decide +kernel
theorem dX2_init_242 : decode cX2_init 242 = .ok (.invokevirtual 62, 3) := by decide +kernel
theorem dX2_init_245 : decode cX2_init 245 = .ok (.aload_n 0, 1) := by decide +kernel
theorem dX2_init_246 : decode cX2_init 246 = .ok (.getfield 26, 3) := by decide +kernel
theorem dX2_init_249 : decode cX2_init 249 = .ok (.iconst 2, 1) := by decide +kernel
theorem dX2_init_250 : decode cX2_init 250 = .ok (.iconst 0, 1) := by decide +kernel
theorem dX2_init_251 : decode cX2_init 251 = .ok (.iconst 1, 1) := by decide +kernel
theorem dX2_init_252 : decode cX2_init 252 = .ok (.invokevirtual 62, 3) := by decide +kernel
theorem dX2_init_255 : decode cX2_init 255 = .ok (.aload_n 0, 1) := by decide +kernel
theorem dX2_init_256 : decode cX2_init 256 = .ok (.getfield 26, 3) := by decide +kernel
theorem dX2_init_259 : decode cX2_init 259 = .ok (.iconst 3, 1) := by decide +kernel
theorem dX2_init_260 : decode cX2_init 260 = .ok (.iconst 0, 1) := by decide +kernel
theorem dX2_init_261 : decode cX2_init 261 = .ok (.iconst 4, 1) := by decide +kernel
theorem dX2_init_262 : decode cX2_init 262 = .ok (.invokevirtual 62, 3) := by decide +kernel
theorem dX2_init_265 : decode cX2_init 265 = .ok (.aload_n 0, 1) := by decide +kernel
theorem dX2_init_266 : decode cX2_init 266 = .ok (.getfield 38, 3) := by decide +kernel
theorem dX2_init_269 : decode cX2_init 269 = .ok (.iconst 0, 1) := by decide +kernel
theorem dX2_init_270 : decode cX2_init 270 = .ok (.bipush (-9), 2) := by decide +kernel
theorem dX2_init_272 : decode cX2_init 272 = .ok (.invokevirtual 58, 3) := by decide +kernel
theorem dX2_init_275 : decode cX2_init 275 = .ok (.aload_n 0, 1) := by decide +kernel
theorem dX2_init_276 : decode cX2_init 276 = .ok (.getfield 44, 3) := by decide +kernel
theorem dX2_init_279 : decode cX2_init 279 = .ok (.iconst 0, 1) := by decide +kernel
theorem dX2_init_280 : decode cX2_init 280 = .ok (.bipush (-9), 2) := by decide +kernel
theorem dX2_init_282 : decode cX2_init 282 = .ok (.invokevirtual 58, 3) := by decide +kernel
theorem dX2_init_285 : decode cX2_init 285 = .ok (.return_, 1) := by decide +kernel
def bfX2_init_tail_181  (K181 : Int32 × (StS) → Option (StS)) (x : Int32 × (StS)) : Option (StS) :=
  match x with
  | (x1, S) => (if (12 : Int32) ≤ x1 then nm (sputAll 1 S (7 : Int32) (((10 : Int32) * (tabI firstL ((10 : Int32)).toNatClampNeg)))) fun S10 => nm (sput 3 S10 (0 : Int32) (0 : Int32) (2 : Int32)) fun S11 => nm (sput 3 S11 (1 : Int32) (0 : Int32) (8 : Int32)) fun S12 => nm (sput 3 S12 (2 : Int32) (0 : Int32) (1 : Int32)) fun S13 => nm (sput 3 S13 (3 : Int32) (0 : Int32) (4 : Int32)) fun S14 => nm (sputAll 7 S14 (0 : Int32) (-9 : Int32)) fun S15 => nm (sputAll 9 S15 (0 : Int32) (-9 : Int32)) fun S16 => some S16 else (if okI x1 12 then nm (sputAll 0 S x1 ((tabI firstL (x1).toNatClampNeg))) fun S17 => K181 ((x1 + (1 : Int32)), S17) else none))
def fX2_init_tail (S : StS) : Option (StS) :=
  nm (S.1, upd S.2 13 (1 : Int32)) fun S18 => iter (bfX2_init_tail_181) FU ((0 : Int32), S18)
set_option maxHeartbeats 4000000 in
set_option maxRecDepth 100000 in
theorem kX2_init_tail {p : Program} {l : Launch} {e : Env} {s : State} {m : MethodId} {args : Array Value} {below : List Frame} {meth : Method} {c : Code} {A : Nat → Prop} {Q : State → Prop} {D : va_G} {cI cS : ClassId} (C : Cx p s m args meth c RX2 cX2_init 2 none D (tyL cI cS)) (hA : ∀ q, s.heap.size ≤ q → A q) (hz : ZZ A s s.heap) (hN : NN s) (aS : Nat → Nat) (S : StS) {q : StS} (h : fX2_init_tail S = some q) (RET : ∀ {H : Heap} {locs : List Loc} {pc : Nat} {ls : Array Slot}, decode cX2_init pc = .ok (.return_, 1) → va_P D vwCl (wS cI aS q) H → va_D A (wS cI aS q) → va_S A s.heap H locs → W p l e (rmN 3 22 722) s m args below meth c H locs 22 722 Q (F0 m pc ls [])) (H : Heap) (locs : List Loc) (ls : Array Slot) (hP : va_P D vwCl (wS cI aS S) H) (hD : va_D A (wS cI aS S)) (hS : va_S A s.heap H locs) (hl : lv_has ls 2 [(0, .ref (aS 0))]) : W p l e (rmN 3 22 722) s m args below meth c H locs 22 722 Q (F0 m 174 ls []) := by
  obtain ⟨-, -, aF, hF1, hF2⟩ := hz
  have RETh : ∀ {pc : Nat} {ls : Array Slot} {H : Heap} {locs : List Loc} {S1 : StS}, decode cX2_init pc = .ok (.return_, 1) → some S1 = some q → va_P D vwCl (wS cI aS S1) H → va_D A (wS cI aS S1) → va_S A s.heap H locs → W p l e (rmN 3 22 722) s m args below meth c H locs 22 722 Q (F0 m pc ls []) := by
    intro pc ls H locs S1 hd h hP hD hS; cases h; exact RET hd hP hD hS
  clear RET
  have B181 : ∀ (n : Nat) (x : Int32 × (StS)), iter (bfX2_init_tail_181) n x = some q → (match x with | (x1, S) => ∀ (H : Heap) (locs : List Loc) (ls : Array Slot), va_P D vwCl (wS cI aS S) H → va_D A (wS cI aS S) → va_S A s.heap H locs → lv_has ls 2 [(0, .ref (aS 0)), (1, .int x1)] → W p l e (rmN 3 22 722) s m args below meth c H locs 22 722 Q (F0 m 181 ls [])) := by
    refine iter_ind (fun x : Int32 × (StS) => (match x with | (x1, S) => ∀ (H : Heap) (locs : List Loc) (ls : Array Slot), va_P D vwCl (wS cI aS S) H → va_D A (wS cI aS S) → va_S A s.heap H locs → lv_has ls 2 [(0, .ref (aS 0)), (1, .int x1)] → W p l e (rmN 3 22 722) s m args below meth c H locs 22 722 Q (F0 m 181 ls []))) ?_
    intro K181 ih181 x h
    obtain ⟨x1, S⟩ := x
    intro H locs ls hP hD hS hl
    refine x_iload_n C dX2_init_181 rfl hl 1 rfl ?_
    refine x_bipush (v := (12 : Int32)) C dX2_init_182 (by decide) ?_
    refine x_icmp_ge (tgt := 206) C h dX2_init_184 (by decide) (fun h => ?_) (fun h => ?_)
    · refine x_aload_n C dX2_init_206 rfl hl 0 rfl ?_
      refine x_get C inX2 hP 0 rfl rfl 1 (by decide) wf_X2_20 rfl dX2_init_207 ?_
      refine x_bipush (v := (7 : Int32)) C dX2_init_210 (by decide) ?_
      refine x_bipush (v := (10 : Int32)) C dX2_init_212 (by decide) ?_
      refine x_getsN C hF1 hS hN.1 dX2_init_214 ?_
      refine x_bipush (v := (10 : Int32)) C dX2_init_217 (by decide) ?_
      refine x_taldK C hF2 hS (by decide) dX2_init_219 ?_
      refine x_imul C dX2_init_220 ?_
      refine x_callV (As := [.int _, .int _]) (n := 2) C (kS_putInAll l D cI cS aS _ 1 (by decide) _ _) (fun hh => nomatch hh) wm_X2_58 wi_X3_putInAll we_X3_putInAll wz_X3 wc_X3_putInAll (by decide +kernel) rfl hP hD hS hA 3 1 rfl rfl rfl hl.1 dX2_init_221 rfl (Nat.le_of_ble_eq_true rfl) ⟨Nat.le_of_ble_eq_true rfl, Nat.le_of_ble_eq_true rfl⟩ ⟨Nat.le_refl _, Nat.le_refl _⟩ (fun H locs hP hD hS => ?_)
      refine x_nmS (wS cI aS) h hP hD (fun S10 h hP hD => ?_)
      refine x_aload_n C dX2_init_224 rfl hl 0 rfl ?_
      refine x_get C inX2 hP 0 rfl rfl 3 (by decide) wf_X2_26 rfl dX2_init_225 ?_
      refine x_iconst (v := (0 : Int32)) C dX2_init_228 (by decide) ?_
      refine x_iconst (v := (0 : Int32)) C dX2_init_229 (by decide) ?_
      refine x_iconst (v := (2 : Int32)) C dX2_init_230 (by decide) ?_
      refine x_callV (As := [.int _, .int _, .int _]) (n := 3) C (kS_put l D cI cS aS _ 3 (by decide) _ _ _) (fun hh => nomatch hh) wm_X2_62 wi_X3_put we_X3_put wz_X3 wc_X3_put (by decide +kernel) rfl hP hD hS hA 7 1 rfl rfl rfl hl.1 dX2_init_231 rfl (Nat.le_of_ble_eq_true rfl) ⟨Nat.le_of_ble_eq_true rfl, Nat.le_of_ble_eq_true rfl⟩ ⟨Nat.le_refl _, Nat.le_refl _⟩ (fun H locs hP hD hS => ?_)
      refine x_nmS (wS cI aS) h hP hD (fun S11 h hP hD => ?_)
      refine x_aload_n C dX2_init_234 rfl hl 0 rfl ?_
      refine x_get C inX2 hP 0 rfl rfl 3 (by decide) wf_X2_26 rfl dX2_init_235 ?_
      refine x_iconst (v := (1 : Int32)) C dX2_init_238 (by decide) ?_
      refine x_iconst (v := (0 : Int32)) C dX2_init_239 (by decide) ?_
      refine x_bipush (v := (8 : Int32)) C dX2_init_240 (by decide) ?_
      refine x_callV (As := [.int _, .int _, .int _]) (n := 3) C (kS_put l D cI cS aS _ 3 (by decide) _ _ _) (fun hh => nomatch hh) wm_X2_62 wi_X3_put we_X3_put wz_X3 wc_X3_put (by decide +kernel) rfl hP hD hS hA 7 1 rfl rfl rfl hl.1 dX2_init_242 rfl (Nat.le_of_ble_eq_true rfl) ⟨Nat.le_of_ble_eq_true rfl, Nat.le_of_ble_eq_true rfl⟩ ⟨Nat.le_refl _, Nat.le_refl _⟩ (fun H locs hP hD hS => ?_)
      refine x_nmS (wS cI aS) h hP hD (fun S12 h hP hD => ?_)
      refine x_aload_n C dX2_init_245 rfl hl 0 rfl ?_
      refine x_get C inX2 hP 0 rfl rfl 3 (by decide) wf_X2_26 rfl dX2_init_246 ?_
      refine x_iconst (v := (2 : Int32)) C dX2_init_249 (by decide) ?_
      refine x_iconst (v := (0 : Int32)) C dX2_init_250 (by decide) ?_
      refine x_iconst (v := (1 : Int32)) C dX2_init_251 (by decide) ?_
      refine x_callV (As := [.int _, .int _, .int _]) (n := 3) C (kS_put l D cI cS aS _ 3 (by decide) _ _ _) (fun hh => nomatch hh) wm_X2_62 wi_X3_put we_X3_put wz_X3 wc_X3_put (by decide +kernel) rfl hP hD hS hA 7 1 rfl rfl rfl hl.1 dX2_init_252 rfl (Nat.le_of_ble_eq_true rfl) ⟨Nat.le_of_ble_eq_true rfl, Nat.le_of_ble_eq_true rfl⟩ ⟨Nat.le_refl _, Nat.le_refl _⟩ (fun H locs hP hD hS => ?_)
      refine x_nmS (wS cI aS) h hP hD (fun S13 h hP hD => ?_)
      refine x_aload_n C dX2_init_255 rfl hl 0 rfl ?_
      refine x_get C inX2 hP 0 rfl rfl 3 (by decide) wf_X2_26 rfl dX2_init_256 ?_
      refine x_iconst (v := (3 : Int32)) C dX2_init_259 (by decide) ?_
      refine x_iconst (v := (0 : Int32)) C dX2_init_260 (by decide) ?_
      refine x_iconst (v := (4 : Int32)) C dX2_init_261 (by decide) ?_
      refine x_callV (As := [.int _, .int _, .int _]) (n := 3) C (kS_put l D cI cS aS _ 3 (by decide) _ _ _) (fun hh => nomatch hh) wm_X2_62 wi_X3_put we_X3_put wz_X3 wc_X3_put (by decide +kernel) rfl hP hD hS hA 7 1 rfl rfl rfl hl.1 dX2_init_262 rfl (Nat.le_of_ble_eq_true rfl) ⟨Nat.le_of_ble_eq_true rfl, Nat.le_of_ble_eq_true rfl⟩ ⟨Nat.le_refl _, Nat.le_refl _⟩ (fun H locs hP hD hS => ?_)
      refine x_nmS (wS cI aS) h hP hD (fun S14 h hP hD => ?_)
      refine x_aload_n C dX2_init_265 rfl hl 0 rfl ?_
      refine x_get C inX2 hP 0 rfl rfl 7 (by decide) wf_X2_38 rfl dX2_init_266 ?_
      refine x_iconst (v := (0 : Int32)) C dX2_init_269 (by decide) ?_
      refine x_bipush (v := (-9 : Int32)) C dX2_init_270 (by decide) ?_
      refine x_callV (As := [.int _, .int _]) (n := 2) C (kS_putInAll l D cI cS aS _ 7 (by decide) _ _) (fun hh => nomatch hh) wm_X2_58 wi_X3_putInAll we_X3_putInAll wz_X3 wc_X3_putInAll (by decide +kernel) rfl hP hD hS hA 15 1 rfl rfl rfl hl.1 dX2_init_272 rfl (Nat.le_of_ble_eq_true rfl) ⟨Nat.le_of_ble_eq_true rfl, Nat.le_of_ble_eq_true rfl⟩ ⟨Nat.le_refl _, Nat.le_refl _⟩ (fun H locs hP hD hS => ?_)
      refine x_nmS (wS cI aS) h hP hD (fun S15 h hP hD => ?_)
      refine x_aload_n C dX2_init_275 rfl hl 0 rfl ?_
      refine x_get C inX2 hP 0 rfl rfl 9 (by decide) wf_X2_44 rfl dX2_init_276 ?_
      refine x_iconst (v := (0 : Int32)) C dX2_init_279 (by decide) ?_
      refine x_bipush (v := (-9 : Int32)) C dX2_init_280 (by decide) ?_
      refine x_callV (As := [.int _, .int _]) (n := 2) C (kS_putInAll l D cI cS aS _ 9 (by decide) _ _) (fun hh => nomatch hh) wm_X2_58 wi_X3_putInAll we_X3_putInAll wz_X3 wc_X3_putInAll (by decide +kernel) rfl hP hD hS hA 19 1 rfl rfl rfl hl.1 dX2_init_282 rfl (Nat.le_of_ble_eq_true rfl) ⟨Nat.le_of_ble_eq_true rfl, Nat.le_of_ble_eq_true rfl⟩ ⟨Nat.le_refl _, Nat.le_refl _⟩ (fun H locs hP hD hS => ?_)
      refine x_nmS (wS cI aS) h hP hD (fun S16 h hP hD => ?_)
      exact RETh dX2_init_285 h hP hD hS
    · refine x_aload_n C dX2_init_187 rfl hl 0 rfl ?_
      refine x_get C inX2 hP 0 rfl rfl 0 (by decide) wf_X2_14 rfl dX2_init_188 ?_
      refine x_iload_n C dX2_init_191 rfl hl 1 rfl ?_
      refine x_getsN C hF1 hS hN.1 dX2_init_192 ?_
      refine x_iload_n C dX2_init_195 rfl hl 1 rfl ?_
      refine x_tald C hF2 hS h dX2_init_196 (fun h => ?_)
      refine x_callV (As := [.int _, .int _]) (n := 2) C (kS_putInAll l D cI cS aS _ 0 (by decide) _ _) (fun hh => nomatch hh) wm_X2_58 wi_X3_putInAll we_X3_putInAll wz_X3 wc_X3_putInAll (by decide +kernel) rfl hP hD hS hA 1 1 rfl rfl rfl hl.1 dX2_init_197 rfl (Nat.le_of_ble_eq_true rfl) ⟨Nat.le_of_ble_eq_true rfl, Nat.le_of_ble_eq_true rfl⟩ ⟨Nat.le_refl _, Nat.le_refl _⟩ (fun H locs hP hD hS => ?_)
      refine x_nmS (wS cI aS) h hP hD (fun S17 h hP hD => ?_)
      refine x_iinc (v := (x1 + (1 : Int32))) (lv' := [(1, .int (x1 + (1 : Int32))), (0, .ref (aS 0))]) C dX2_init_200 hl (k := 1) rfl rfl (by decide) rfl (fun ls hl => ?_)
      refine x_goto (tgt := 181) C dX2_init_203 (by decide) ?_
      exact ih181 _ h _ _ _ hP hD hS (lv_sub hl [1, 0] rfl)
  refine x_aload_n C dX2_init_174 rfl hl 0 rfl ?_
  refine x_iconst (v := (1 : Int32)) C dX2_init_175 (by decide) ?_
  refine x_putM (wS cI aS) C h inX2 tyX2 tyX2_ok nmX2 hP hD hS 0 rfl rfl 13 (by decide) wf_X2_50 rfl (ft := .int) (by decide +kernel) rfl rfl (Nat.le_of_ble_eq_true rfl) rfl dX2_init_176 (fun S18 h H locs hP hD hS => ?_)
  refine x_iconst (v := (0 : Int32)) C dX2_init_179 (by decide) ?_
  refine x_istore_n (lv' := [(1, .int (0 : Int32)), (0, .ref (aS 0))]) C dX2_init_180 rfl hl (by decide) rfl (fun ls hl => ?_)
  exact B181 FU _ h _ _ _ hP hD hS (lv_sub hl [1, 0] rfl)
def z0 : Nat → Nat → Int32 := fun _ _ => 0
def bornS : StS := (fun k => ([6, 6, 6, 4, 3, 0, 0, 4, 0, 4, 64].getD k 0, z0), fun _ => 0)
def initS : StS := (fX2_init_tail bornS).getD bornS
theorem initS_eq : fX2_init_tail bornS = some initS := by
  have h : (fX2_init_tail bornS).isSome = true := by decide +kernel
  unfold initS
  cases e : fX2_init_tail bornS with
  | none => rw [e] at h; cases h
  | some q => rfl
def ad0 (a : Nat) (u : Nat → Nat) : Nat → Nat := fun k => if k = 0 then a else u k
set_option maxHeartbeats 4000000 in
set_option maxRecDepth 100000 in
theorem kX2_init (l : Launch) (D : va_G) (cI cS : ClassId) (sA : Nat) : McN l D (tyL cI cS) yX2_init cX2_init 2 3 [.ref sA] [(sA, .inr (0, [.null, .null, .null, .null, .null, .null, .null, .null, .null, .null, .null, .int 0, .int 0, .int 0, .int 0, .int 0, .int 0, .int 0]))] 22 722 (fun u => wS cI (ad0 sA u) initS) := by
  refine McN_of RX2 (by decide +kernel) rfl wc_X2_init (Nat.le_of_ble_eq_true rfl) ?_
  intro p e s m args below meth c A Q ls C hnm hA hz hN hP hD hS hl RET
  refine x_aload_n C dX2_init_0 rfl hl 0 rfl ?_
  refine x_obj C wm_X2_3 hl.1 dX2_init_1 (Nat.le_of_ble_eq_true rfl) (Nat.le_of_ble_eq_true rfl) ?_
  refine x_aload_n C dX2_init_4 rfl hl 0 rfl ?_
  refine x_new C (ci := 1) (fs := [.int 0, .null, .int 0]) inX3 tyX3 tyX3_ok wk_X2_9 wa_X3 wz_X3 hP hD hS hA rfl (fun j hj => by rcases (show j = 0 ∨ j = 1 ∨ j = 2 by omega) with rfl | rfl | rfl <;> rfl) (Nat.le_of_ble_eq_true rfl) (Nat.le_of_ble_eq_true rfl) dX2_init_5 (fun t0 H hP hD hS => ?_)
  refine x_dup C dX2_init_8 rfl ?_
  refine x_bipush (v := (6 : Int32)) C dX2_init_9 (by decide) ?_
  refine x_bipush (v := (12 : Int32)) C dX2_init_11 (by decide) ?_
  refine x_bipush (v := (6 : Int32)) C dX2_init_13 (by decide) ?_
  refine x_callI (n := 3) (wr := [(sA, .inr (0, [.null, .null, .null, .null, .null, .null, .null, .null, .null, .null, .null, .int 0, .int 0, .int 0, .int 0, .int 0, .int 0, .int 0]))]) (wc := [(t0, .inr (1, [.int 0, .null, .int 0]))]) (As := [.int _, .int _, .int _]) C (kX3_init l D cI cS t0 12 6 6 (by omega) (by omega) (by omega)) hz hN wm_X2_11 wi_X3_init wz_X3 wc_X3_init (by decide +kernel) rfl hP hD hS hA hl.1 dX2_init_15 rfl (Nat.le_of_ble_eq_true rfl) ⟨Nat.le_of_ble_eq_true rfl, Nat.le_of_ble_eq_true rfl⟩ ⟨Nat.le_of_ble_eq_true rfl, Nat.le_of_ble_eq_true rfl⟩ (fun c0 H locs hP hD hS => ?_)
  refine x_putF C hnm (ws' := [(sA, .inr (0, [.ref t0, .null, .null, .null, .null, .null, .null, .null, .null, .null, .null, .int 0, .int 0, .int 0, .int 0, .int 0, .int 0, .int 0]))] ++ (wB cI t0 c0 12 6 (6, z0))) (ft := .object "RetryStorm$Table") inX2 tyX2 tyX2_ok nmX2 hP hD hS 0 rfl rfl 0 (by decide) wf_X2_14 rfl rfl (by decide +kernel) rfl rfl (Nat.le_of_ble_eq_true rfl) rfl dX2_init_18 (fun H locs hP hD hS => ?_)
  refine x_aload_n C dX2_init_21 rfl hl 0 rfl ?_
  refine x_new C (ci := 1) (fs := [.int 0, .null, .int 0]) inX3 tyX3 tyX3_ok wk_X2_9 wa_X3 wz_X3 hP hD hS hA rfl (fun j hj => by rcases (show j = 0 ∨ j = 1 ∨ j = 2 by omega) with rfl | rfl | rfl <;> rfl) (Nat.le_of_ble_eq_true rfl) (Nat.le_of_ble_eq_true rfl) dX2_init_22 (fun t1 H hP hD hS => ?_)
  refine x_dup C dX2_init_25 rfl ?_
  refine x_bipush (v := (6 : Int32)) C dX2_init_26 (by decide) ?_
  refine x_bipush (v := (14 : Int32)) C dX2_init_28 (by decide) ?_
  refine x_bipush (v := (6 : Int32)) C dX2_init_30 (by decide) ?_
  refine x_callI (n := 3) (wr := [(sA, .inr (0, [.ref t0, .null, .null, .null, .null, .null, .null, .null, .null, .null, .null, .int 0, .int 0, .int 0, .int 0, .int 0, .int 0, .int 0]))] ++ (wB cI t0 c0 12 6 (6, z0))) (wc := [(t1, .inr (1, [.int 0, .null, .int 0]))]) (As := [.int _, .int _, .int _]) C (kX3_init l D cI cS t1 14 6 6 (by omega) (by omega) (by omega)) hz hN wm_X2_11 wi_X3_init wz_X3 wc_X3_init (by decide +kernel) rfl hP hD hS hA hl.1 dX2_init_32 rfl (Nat.le_of_ble_eq_true rfl) ⟨Nat.le_of_ble_eq_true rfl, Nat.le_of_ble_eq_true rfl⟩ ⟨Nat.le_of_ble_eq_true rfl, Nat.le_of_ble_eq_true rfl⟩ (fun c1 H locs hP hD hS => ?_)
  refine x_putF C hnm (ws' := [(sA, .inr (0, [.ref t0, .ref t1, .null, .null, .null, .null, .null, .null, .null, .null, .null, .int 0, .int 0, .int 0, .int 0, .int 0, .int 0, .int 0]))] ++ (wB cI t0 c0 12 6 (6, z0) ++ (wB cI t1 c1 14 6 (6, z0)))) (ft := .object "RetryStorm$Table") inX2 tyX2 tyX2_ok nmX2 hP hD hS 0 rfl rfl 1 (by decide) wf_X2_20 rfl rfl (by decide +kernel) rfl rfl (Nat.le_of_ble_eq_true rfl) rfl dX2_init_35 (fun H locs hP hD hS => ?_)
  refine x_aload_n C dX2_init_38 rfl hl 0 rfl ?_
  refine x_new C (ci := 1) (fs := [.int 0, .null, .int 0]) inX3 tyX3 tyX3_ok wk_X2_9 wa_X3 wz_X3 hP hD hS hA rfl (fun j hj => by rcases (show j = 0 ∨ j = 1 ∨ j = 2 by omega) with rfl | rfl | rfl <;> rfl) (Nat.le_of_ble_eq_true rfl) (Nat.le_of_ble_eq_true rfl) dX2_init_39 (fun t2 H hP hD hS => ?_)
  refine x_dup C dX2_init_42 rfl ?_
  refine x_bipush (v := (6 : Int32)) C dX2_init_43 (by decide) ?_
  refine x_iconst (v := (3 : Int32)) C dX2_init_45 (by decide) ?_
  refine x_bipush (v := (6 : Int32)) C dX2_init_46 (by decide) ?_
  refine x_callI (n := 3) (wr := [(sA, .inr (0, [.ref t0, .ref t1, .null, .null, .null, .null, .null, .null, .null, .null, .null, .int 0, .int 0, .int 0, .int 0, .int 0, .int 0, .int 0]))] ++ (wB cI t0 c0 12 6 (6, z0) ++ (wB cI t1 c1 14 6 (6, z0)))) (wc := [(t2, .inr (1, [.int 0, .null, .int 0]))]) (As := [.int _, .int _, .int _]) C (kX3_init l D cI cS t2 3 6 6 (by omega) (by omega) (by omega)) hz hN wm_X2_11 wi_X3_init wz_X3 wc_X3_init (by decide +kernel) rfl hP hD hS hA hl.1 dX2_init_48 rfl (Nat.le_of_ble_eq_true rfl) ⟨Nat.le_of_ble_eq_true rfl, Nat.le_of_ble_eq_true rfl⟩ ⟨Nat.le_of_ble_eq_true rfl, Nat.le_of_ble_eq_true rfl⟩ (fun c2 H locs hP hD hS => ?_)
  refine x_putF C hnm (ws' := [(sA, .inr (0, [.ref t0, .ref t1, .ref t2, .null, .null, .null, .null, .null, .null, .null, .null, .int 0, .int 0, .int 0, .int 0, .int 0, .int 0, .int 0]))] ++ (wB cI t0 c0 12 6 (6, z0) ++ (wB cI t1 c1 14 6 (6, z0) ++ (wB cI t2 c2 3 6 (6, z0))))) (ft := .object "RetryStorm$Table") inX2 tyX2 tyX2_ok nmX2 hP hD hS 0 rfl rfl 2 (by decide) wf_X2_23 rfl rfl (by decide +kernel) rfl rfl (Nat.le_of_ble_eq_true rfl) rfl dX2_init_51 (fun H locs hP hD hS => ?_)
  refine x_aload_n C dX2_init_54 rfl hl 0 rfl ?_
  refine x_new C (ci := 1) (fs := [.int 0, .null, .int 0]) inX3 tyX3 tyX3_ok wk_X2_9 wa_X3 wz_X3 hP hD hS hA rfl (fun j hj => by rcases (show j = 0 ∨ j = 1 ∨ j = 2 by omega) with rfl | rfl | rfl <;> rfl) (Nat.le_of_ble_eq_true rfl) (Nat.le_of_ble_eq_true rfl) dX2_init_55 (fun t3 H hP hD hS => ?_)
  refine x_dup C dX2_init_58 rfl ?_
  refine x_iconst (v := (4 : Int32)) C dX2_init_59 (by decide) ?_
  refine x_iconst (v := (1 : Int32)) C dX2_init_60 (by decide) ?_
  refine x_iconst (v := (4 : Int32)) C dX2_init_61 (by decide) ?_
  refine x_callI (n := 3) (wr := [(sA, .inr (0, [.ref t0, .ref t1, .ref t2, .null, .null, .null, .null, .null, .null, .null, .null, .int 0, .int 0, .int 0, .int 0, .int 0, .int 0, .int 0]))] ++ (wB cI t0 c0 12 6 (6, z0) ++ (wB cI t1 c1 14 6 (6, z0) ++ (wB cI t2 c2 3 6 (6, z0))))) (wc := [(t3, .inr (1, [.int 0, .null, .int 0]))]) (As := [.int _, .int _, .int _]) C (kX3_init l D cI cS t3 1 4 4 (by omega) (by omega) (by omega)) hz hN wm_X2_11 wi_X3_init wz_X3 wc_X3_init (by decide +kernel) rfl hP hD hS hA hl.1 dX2_init_62 rfl (Nat.le_of_ble_eq_true rfl) ⟨Nat.le_of_ble_eq_true rfl, Nat.le_of_ble_eq_true rfl⟩ ⟨Nat.le_of_ble_eq_true rfl, Nat.le_of_ble_eq_true rfl⟩ (fun c3 H locs hP hD hS => ?_)
  refine x_putF C hnm (ws' := [(sA, .inr (0, [.ref t0, .ref t1, .ref t2, .ref t3, .null, .null, .null, .null, .null, .null, .null, .int 0, .int 0, .int 0, .int 0, .int 0, .int 0, .int 0]))] ++ (wB cI t0 c0 12 6 (6, z0) ++ (wB cI t1 c1 14 6 (6, z0) ++ (wB cI t2 c2 3 6 (6, z0) ++ (wB cI t3 c3 1 4 (4, z0)))))) (ft := .object "RetryStorm$Table") inX2 tyX2 tyX2_ok nmX2 hP hD hS 0 rfl rfl 3 (by decide) wf_X2_26 rfl rfl (by decide +kernel) rfl rfl (Nat.le_of_ble_eq_true rfl) rfl dX2_init_65 (fun H locs hP hD hS => ?_)
  refine x_aload_n C dX2_init_68 rfl hl 0 rfl ?_
  refine x_new C (ci := 1) (fs := [.int 0, .null, .int 0]) inX3 tyX3 tyX3_ok wk_X2_9 wa_X3 wz_X3 hP hD hS hA rfl (fun j hj => by rcases (show j = 0 ∨ j = 1 ∨ j = 2 by omega) with rfl | rfl | rfl <;> rfl) (Nat.le_of_ble_eq_true rfl) (Nat.le_of_ble_eq_true rfl) dX2_init_69 (fun t4 H hP hD hS => ?_)
  refine x_dup C dX2_init_72 rfl ?_
  refine x_iconst (v := (3 : Int32)) C dX2_init_73 (by decide) ?_
  refine x_iconst (v := (1 : Int32)) C dX2_init_74 (by decide) ?_
  refine x_iconst (v := (3 : Int32)) C dX2_init_75 (by decide) ?_
  refine x_callI (n := 3) (wr := [(sA, .inr (0, [.ref t0, .ref t1, .ref t2, .ref t3, .null, .null, .null, .null, .null, .null, .null, .int 0, .int 0, .int 0, .int 0, .int 0, .int 0, .int 0]))] ++ (wB cI t0 c0 12 6 (6, z0) ++ (wB cI t1 c1 14 6 (6, z0) ++ (wB cI t2 c2 3 6 (6, z0) ++ (wB cI t3 c3 1 4 (4, z0)))))) (wc := [(t4, .inr (1, [.int 0, .null, .int 0]))]) (As := [.int _, .int _, .int _]) C (kX3_init l D cI cS t4 1 3 3 (by omega) (by omega) (by omega)) hz hN wm_X2_11 wi_X3_init wz_X3 wc_X3_init (by decide +kernel) rfl hP hD hS hA hl.1 dX2_init_76 rfl (Nat.le_of_ble_eq_true rfl) ⟨Nat.le_of_ble_eq_true rfl, Nat.le_of_ble_eq_true rfl⟩ ⟨Nat.le_of_ble_eq_true rfl, Nat.le_of_ble_eq_true rfl⟩ (fun c4 H locs hP hD hS => ?_)
  refine x_putF C hnm (ws' := [(sA, .inr (0, [.ref t0, .ref t1, .ref t2, .ref t3, .ref t4, .null, .null, .null, .null, .null, .null, .int 0, .int 0, .int 0, .int 0, .int 0, .int 0, .int 0]))] ++ (wB cI t0 c0 12 6 (6, z0) ++ (wB cI t1 c1 14 6 (6, z0) ++ (wB cI t2 c2 3 6 (6, z0) ++ (wB cI t3 c3 1 4 (4, z0) ++ (wB cI t4 c4 1 3 (3, z0))))))) (ft := .object "RetryStorm$Table") inX2 tyX2 tyX2_ok nmX2 hP hD hS 0 rfl rfl 4 (by decide) wf_X2_29 rfl rfl (by decide +kernel) rfl rfl (Nat.le_of_ble_eq_true rfl) rfl dX2_init_79 (fun H locs hP hD hS => ?_)
  refine x_aload_n C dX2_init_82 rfl hl 0 rfl ?_
  refine x_new C (ci := 1) (fs := [.int 0, .null, .int 0]) inX3 tyX3 tyX3_ok wk_X2_9 wa_X3 wz_X3 hP hD hS hA rfl (fun j hj => by rcases (show j = 0 ∨ j = 1 ∨ j = 2 by omega) with rfl | rfl | rfl <;> rfl) (Nat.le_of_ble_eq_true rfl) (Nat.le_of_ble_eq_true rfl) dX2_init_83 (fun t5 H hP hD hS => ?_)
  refine x_dup C dX2_init_86 rfl ?_
  refine x_bipush (v := (16 : Int32)) C dX2_init_87 (by decide) ?_
  refine x_bipush (v := (7 : Int32)) C dX2_init_89 (by decide) ?_
  refine x_iconst (v := (0 : Int32)) C dX2_init_91 (by decide) ?_
  refine x_callI (n := 3) (wr := [(sA, .inr (0, [.ref t0, .ref t1, .ref t2, .ref t3, .ref t4, .null, .null, .null, .null, .null, .null, .int 0, .int 0, .int 0, .int 0, .int 0, .int 0, .int 0]))] ++ (wB cI t0 c0 12 6 (6, z0) ++ (wB cI t1 c1 14 6 (6, z0) ++ (wB cI t2 c2 3 6 (6, z0) ++ (wB cI t3 c3 1 4 (4, z0) ++ (wB cI t4 c4 1 3 (3, z0))))))) (wc := [(t5, .inr (1, [.int 0, .null, .int 0]))]) (As := [.int _, .int _, .int _]) C (kX3_init l D cI cS t5 7 16 0 (by omega) (by omega) (by omega)) hz hN wm_X2_11 wi_X3_init wz_X3 wc_X3_init (by decide +kernel) rfl hP hD hS hA hl.1 dX2_init_92 rfl (Nat.le_of_ble_eq_true rfl) ⟨Nat.le_of_ble_eq_true rfl, Nat.le_of_ble_eq_true rfl⟩ ⟨Nat.le_of_ble_eq_true rfl, Nat.le_of_ble_eq_true rfl⟩ (fun c5 H locs hP hD hS => ?_)
  refine x_putF C hnm (ws' := [(sA, .inr (0, [.ref t0, .ref t1, .ref t2, .ref t3, .ref t4, .ref t5, .null, .null, .null, .null, .null, .int 0, .int 0, .int 0, .int 0, .int 0, .int 0, .int 0]))] ++ (wB cI t0 c0 12 6 (6, z0) ++ (wB cI t1 c1 14 6 (6, z0) ++ (wB cI t2 c2 3 6 (6, z0) ++ (wB cI t3 c3 1 4 (4, z0) ++ (wB cI t4 c4 1 3 (3, z0) ++ (wB cI t5 c5 7 16 (0, z0)))))))) (ft := .object "RetryStorm$Table") inX2 tyX2 tyX2_ok nmX2 hP hD hS 0 rfl rfl 5 (by decide) wf_X2_32 rfl rfl (by decide +kernel) rfl rfl (Nat.le_of_ble_eq_true rfl) rfl dX2_init_95 (fun H locs hP hD hS => ?_)
  refine x_aload_n C dX2_init_98 rfl hl 0 rfl ?_
  refine x_new C (ci := 1) (fs := [.int 0, .null, .int 0]) inX3 tyX3 tyX3_ok wk_X2_9 wa_X3 wz_X3 hP hD hS hA rfl (fun j hj => by rcases (show j = 0 ∨ j = 1 ∨ j = 2 by omega) with rfl | rfl | rfl <;> rfl) (Nat.le_of_ble_eq_true rfl) (Nat.le_of_ble_eq_true rfl) dX2_init_99 (fun t6 H hP hD hS => ?_)
  refine x_dup C dX2_init_102 rfl ?_
  refine x_bipush (v := (16 : Int32)) C dX2_init_103 (by decide) ?_
  refine x_bipush (v := (6 : Int32)) C dX2_init_105 (by decide) ?_
  refine x_iconst (v := (0 : Int32)) C dX2_init_107 (by decide) ?_
  refine x_callI (n := 3) (wr := [(sA, .inr (0, [.ref t0, .ref t1, .ref t2, .ref t3, .ref t4, .ref t5, .null, .null, .null, .null, .null, .int 0, .int 0, .int 0, .int 0, .int 0, .int 0, .int 0]))] ++ (wB cI t0 c0 12 6 (6, z0) ++ (wB cI t1 c1 14 6 (6, z0) ++ (wB cI t2 c2 3 6 (6, z0) ++ (wB cI t3 c3 1 4 (4, z0) ++ (wB cI t4 c4 1 3 (3, z0) ++ (wB cI t5 c5 7 16 (0, z0)))))))) (wc := [(t6, .inr (1, [.int 0, .null, .int 0]))]) (As := [.int _, .int _, .int _]) C (kX3_init l D cI cS t6 6 16 0 (by omega) (by omega) (by omega)) hz hN wm_X2_11 wi_X3_init wz_X3 wc_X3_init (by decide +kernel) rfl hP hD hS hA hl.1 dX2_init_108 rfl (Nat.le_of_ble_eq_true rfl) ⟨Nat.le_of_ble_eq_true rfl, Nat.le_of_ble_eq_true rfl⟩ ⟨Nat.le_of_ble_eq_true rfl, Nat.le_of_ble_eq_true rfl⟩ (fun c6 H locs hP hD hS => ?_)
  refine x_putF C hnm (ws' := [(sA, .inr (0, [.ref t0, .ref t1, .ref t2, .ref t3, .ref t4, .ref t5, .ref t6, .null, .null, .null, .null, .int 0, .int 0, .int 0, .int 0, .int 0, .int 0, .int 0]))] ++ (wB cI t0 c0 12 6 (6, z0) ++ (wB cI t1 c1 14 6 (6, z0) ++ (wB cI t2 c2 3 6 (6, z0) ++ (wB cI t3 c3 1 4 (4, z0) ++ (wB cI t4 c4 1 3 (3, z0) ++ (wB cI t5 c5 7 16 (0, z0) ++ (wB cI t6 c6 6 16 (0, z0))))))))) (ft := .object "RetryStorm$Table") inX2 tyX2 tyX2_ok nmX2 hP hD hS 0 rfl rfl 6 (by decide) wf_X2_35 rfl rfl (by decide +kernel) rfl rfl (Nat.le_of_ble_eq_true rfl) rfl dX2_init_111 (fun H locs hP hD hS => ?_)
  refine x_aload_n C dX2_init_114 rfl hl 0 rfl ?_
  refine x_new C (ci := 1) (fs := [.int 0, .null, .int 0]) inX3 tyX3 tyX3_ok wk_X2_9 wa_X3 wz_X3 hP hD hS hA rfl (fun j hj => by rcases (show j = 0 ∨ j = 1 ∨ j = 2 by omega) with rfl | rfl | rfl <;> rfl) (Nat.le_of_ble_eq_true rfl) (Nat.le_of_ble_eq_true rfl) dX2_init_115 (fun t7 H hP hD hS => ?_)
  refine x_dup C dX2_init_118 rfl ?_
  refine x_iconst (v := (4 : Int32)) C dX2_init_119 (by decide) ?_
  refine x_bipush (v := (6 : Int32)) C dX2_init_120 (by decide) ?_
  refine x_iconst (v := (4 : Int32)) C dX2_init_122 (by decide) ?_
  refine x_callI (n := 3) (wr := [(sA, .inr (0, [.ref t0, .ref t1, .ref t2, .ref t3, .ref t4, .ref t5, .ref t6, .null, .null, .null, .null, .int 0, .int 0, .int 0, .int 0, .int 0, .int 0, .int 0]))] ++ (wB cI t0 c0 12 6 (6, z0) ++ (wB cI t1 c1 14 6 (6, z0) ++ (wB cI t2 c2 3 6 (6, z0) ++ (wB cI t3 c3 1 4 (4, z0) ++ (wB cI t4 c4 1 3 (3, z0) ++ (wB cI t5 c5 7 16 (0, z0) ++ (wB cI t6 c6 6 16 (0, z0))))))))) (wc := [(t7, .inr (1, [.int 0, .null, .int 0]))]) (As := [.int _, .int _, .int _]) C (kX3_init l D cI cS t7 6 4 4 (by omega) (by omega) (by omega)) hz hN wm_X2_11 wi_X3_init wz_X3 wc_X3_init (by decide +kernel) rfl hP hD hS hA hl.1 dX2_init_123 rfl (Nat.le_of_ble_eq_true rfl) ⟨Nat.le_of_ble_eq_true rfl, Nat.le_of_ble_eq_true rfl⟩ ⟨Nat.le_of_ble_eq_true rfl, Nat.le_of_ble_eq_true rfl⟩ (fun c7 H locs hP hD hS => ?_)
  refine x_putF C hnm (ws' := [(sA, .inr (0, [.ref t0, .ref t1, .ref t2, .ref t3, .ref t4, .ref t5, .ref t6, .ref t7, .null, .null, .null, .int 0, .int 0, .int 0, .int 0, .int 0, .int 0, .int 0]))] ++ (wB cI t0 c0 12 6 (6, z0) ++ (wB cI t1 c1 14 6 (6, z0) ++ (wB cI t2 c2 3 6 (6, z0) ++ (wB cI t3 c3 1 4 (4, z0) ++ (wB cI t4 c4 1 3 (3, z0) ++ (wB cI t5 c5 7 16 (0, z0) ++ (wB cI t6 c6 6 16 (0, z0) ++ (wB cI t7 c7 6 4 (4, z0)))))))))) (ft := .object "RetryStorm$Table") inX2 tyX2 tyX2_ok nmX2 hP hD hS 0 rfl rfl 7 (by decide) wf_X2_38 rfl rfl (by decide +kernel) rfl rfl (Nat.le_of_ble_eq_true rfl) rfl dX2_init_126 (fun H locs hP hD hS => ?_)
  refine x_aload_n C dX2_init_129 rfl hl 0 rfl ?_
  refine x_new C (ci := 1) (fs := [.int 0, .null, .int 0]) inX3 tyX3 tyX3_ok wk_X2_9 wa_X3 wz_X3 hP hD hS hA rfl (fun j hj => by rcases (show j = 0 ∨ j = 1 ∨ j = 2 by omega) with rfl | rfl | rfl <;> rfl) (Nat.le_of_ble_eq_true rfl) (Nat.le_of_ble_eq_true rfl) dX2_init_130 (fun t8 H hP hD hS => ?_)
  refine x_dup C dX2_init_133 rfl ?_
  refine x_bipush (v := (16 : Int32)) C dX2_init_134 (by decide) ?_
  refine x_iconst (v := (1 : Int32)) C dX2_init_136 (by decide) ?_
  refine x_iconst (v := (0 : Int32)) C dX2_init_137 (by decide) ?_
  refine x_callI (n := 3) (wr := [(sA, .inr (0, [.ref t0, .ref t1, .ref t2, .ref t3, .ref t4, .ref t5, .ref t6, .ref t7, .null, .null, .null, .int 0, .int 0, .int 0, .int 0, .int 0, .int 0, .int 0]))] ++ (wB cI t0 c0 12 6 (6, z0) ++ (wB cI t1 c1 14 6 (6, z0) ++ (wB cI t2 c2 3 6 (6, z0) ++ (wB cI t3 c3 1 4 (4, z0) ++ (wB cI t4 c4 1 3 (3, z0) ++ (wB cI t5 c5 7 16 (0, z0) ++ (wB cI t6 c6 6 16 (0, z0) ++ (wB cI t7 c7 6 4 (4, z0)))))))))) (wc := [(t8, .inr (1, [.int 0, .null, .int 0]))]) (As := [.int _, .int _, .int _]) C (kX3_init l D cI cS t8 1 16 0 (by omega) (by omega) (by omega)) hz hN wm_X2_11 wi_X3_init wz_X3 wc_X3_init (by decide +kernel) rfl hP hD hS hA hl.1 dX2_init_138 rfl (Nat.le_of_ble_eq_true rfl) ⟨Nat.le_of_ble_eq_true rfl, Nat.le_of_ble_eq_true rfl⟩ ⟨Nat.le_of_ble_eq_true rfl, Nat.le_of_ble_eq_true rfl⟩ (fun c8 H locs hP hD hS => ?_)
  refine x_putF C hnm (ws' := [(sA, .inr (0, [.ref t0, .ref t1, .ref t2, .ref t3, .ref t4, .ref t5, .ref t6, .ref t7, .ref t8, .null, .null, .int 0, .int 0, .int 0, .int 0, .int 0, .int 0, .int 0]))] ++ (wB cI t0 c0 12 6 (6, z0) ++ (wB cI t1 c1 14 6 (6, z0) ++ (wB cI t2 c2 3 6 (6, z0) ++ (wB cI t3 c3 1 4 (4, z0) ++ (wB cI t4 c4 1 3 (3, z0) ++ (wB cI t5 c5 7 16 (0, z0) ++ (wB cI t6 c6 6 16 (0, z0) ++ (wB cI t7 c7 6 4 (4, z0) ++ (wB cI t8 c8 1 16 (0, z0))))))))))) (ft := .object "RetryStorm$Table") inX2 tyX2 tyX2_ok nmX2 hP hD hS 0 rfl rfl 8 (by decide) wf_X2_41 rfl rfl (by decide +kernel) rfl rfl (Nat.le_of_ble_eq_true rfl) rfl dX2_init_141 (fun H locs hP hD hS => ?_)
  refine x_aload_n C dX2_init_144 rfl hl 0 rfl ?_
  refine x_new C (ci := 1) (fs := [.int 0, .null, .int 0]) inX3 tyX3 tyX3_ok wk_X2_9 wa_X3 wz_X3 hP hD hS hA rfl (fun j hj => by rcases (show j = 0 ∨ j = 1 ∨ j = 2 by omega) with rfl | rfl | rfl <;> rfl) (Nat.le_of_ble_eq_true rfl) (Nat.le_of_ble_eq_true rfl) dX2_init_145 (fun t9 H hP hD hS => ?_)
  refine x_dup C dX2_init_148 rfl ?_
  refine x_iconst (v := (4 : Int32)) C dX2_init_149 (by decide) ?_
  refine x_iconst (v := (1 : Int32)) C dX2_init_150 (by decide) ?_
  refine x_iconst (v := (4 : Int32)) C dX2_init_151 (by decide) ?_
  refine x_callI (n := 3) (wr := [(sA, .inr (0, [.ref t0, .ref t1, .ref t2, .ref t3, .ref t4, .ref t5, .ref t6, .ref t7, .ref t8, .null, .null, .int 0, .int 0, .int 0, .int 0, .int 0, .int 0, .int 0]))] ++ (wB cI t0 c0 12 6 (6, z0) ++ (wB cI t1 c1 14 6 (6, z0) ++ (wB cI t2 c2 3 6 (6, z0) ++ (wB cI t3 c3 1 4 (4, z0) ++ (wB cI t4 c4 1 3 (3, z0) ++ (wB cI t5 c5 7 16 (0, z0) ++ (wB cI t6 c6 6 16 (0, z0) ++ (wB cI t7 c7 6 4 (4, z0) ++ (wB cI t8 c8 1 16 (0, z0))))))))))) (wc := [(t9, .inr (1, [.int 0, .null, .int 0]))]) (As := [.int _, .int _, .int _]) C (kX3_init l D cI cS t9 1 4 4 (by omega) (by omega) (by omega)) hz hN wm_X2_11 wi_X3_init wz_X3 wc_X3_init (by decide +kernel) rfl hP hD hS hA hl.1 dX2_init_152 rfl (Nat.le_of_ble_eq_true rfl) ⟨Nat.le_of_ble_eq_true rfl, Nat.le_of_ble_eq_true rfl⟩ ⟨Nat.le_of_ble_eq_true rfl, Nat.le_of_ble_eq_true rfl⟩ (fun c9 H locs hP hD hS => ?_)
  refine x_putF C hnm (ws' := [(sA, .inr (0, [.ref t0, .ref t1, .ref t2, .ref t3, .ref t4, .ref t5, .ref t6, .ref t7, .ref t8, .ref t9, .null, .int 0, .int 0, .int 0, .int 0, .int 0, .int 0, .int 0]))] ++ (wB cI t0 c0 12 6 (6, z0) ++ (wB cI t1 c1 14 6 (6, z0) ++ (wB cI t2 c2 3 6 (6, z0) ++ (wB cI t3 c3 1 4 (4, z0) ++ (wB cI t4 c4 1 3 (3, z0) ++ (wB cI t5 c5 7 16 (0, z0) ++ (wB cI t6 c6 6 16 (0, z0) ++ (wB cI t7 c7 6 4 (4, z0) ++ (wB cI t8 c8 1 16 (0, z0) ++ (wB cI t9 c9 1 4 (4, z0)))))))))))) (ft := .object "RetryStorm$Table") inX2 tyX2 tyX2_ok nmX2 hP hD hS 0 rfl rfl 9 (by decide) wf_X2_44 rfl rfl (by decide +kernel) rfl rfl (Nat.le_of_ble_eq_true rfl) rfl dX2_init_155 (fun H locs hP hD hS => ?_)
  refine x_aload_n C dX2_init_158 rfl hl 0 rfl ?_
  refine x_new C (ci := 1) (fs := [.int 0, .null, .int 0]) inX3 tyX3 tyX3_ok wk_X2_9 wa_X3 wz_X3 hP hD hS hA rfl (fun j hj => by rcases (show j = 0 ∨ j = 1 ∨ j = 2 by omega) with rfl | rfl | rfl <;> rfl) (Nat.le_of_ble_eq_true rfl) (Nat.le_of_ble_eq_true rfl) dX2_init_159 (fun t10 H hP hD hS => ?_)
  refine x_dup C dX2_init_162 rfl ?_
  refine x_bipush (v := (64 : Int32)) C dX2_init_163 (by decide) ?_
  refine x_iconst (v := (4 : Int32)) C dX2_init_165 (by decide) ?_
  refine x_bipush (v := (64 : Int32)) C dX2_init_166 (by decide) ?_
  refine x_callI (n := 3) (wr := [(sA, .inr (0, [.ref t0, .ref t1, .ref t2, .ref t3, .ref t4, .ref t5, .ref t6, .ref t7, .ref t8, .ref t9, .null, .int 0, .int 0, .int 0, .int 0, .int 0, .int 0, .int 0]))] ++ (wB cI t0 c0 12 6 (6, z0) ++ (wB cI t1 c1 14 6 (6, z0) ++ (wB cI t2 c2 3 6 (6, z0) ++ (wB cI t3 c3 1 4 (4, z0) ++ (wB cI t4 c4 1 3 (3, z0) ++ (wB cI t5 c5 7 16 (0, z0) ++ (wB cI t6 c6 6 16 (0, z0) ++ (wB cI t7 c7 6 4 (4, z0) ++ (wB cI t8 c8 1 16 (0, z0) ++ (wB cI t9 c9 1 4 (4, z0)))))))))))) (wc := [(t10, .inr (1, [.int 0, .null, .int 0]))]) (As := [.int _, .int _, .int _]) C (kX3_init l D cI cS t10 4 64 64 (by omega) (by omega) (by omega)) hz hN wm_X2_11 wi_X3_init wz_X3 wc_X3_init (by decide +kernel) rfl hP hD hS hA hl.1 dX2_init_168 rfl (Nat.le_of_ble_eq_true rfl) ⟨Nat.le_of_ble_eq_true rfl, Nat.le_of_ble_eq_true rfl⟩ ⟨Nat.le_of_ble_eq_true rfl, Nat.le_of_ble_eq_true rfl⟩ (fun c10 H locs hP hD hS => ?_)
  refine x_putF C hnm (ws' := [(sA, .inr (0, [.ref t0, .ref t1, .ref t2, .ref t3, .ref t4, .ref t5, .ref t6, .ref t7, .ref t8, .ref t9, .ref t10, .int 0, .int 0, .int 0, .int 0, .int 0, .int 0, .int 0]))] ++ (wB cI t0 c0 12 6 (6, z0) ++ (wB cI t1 c1 14 6 (6, z0) ++ (wB cI t2 c2 3 6 (6, z0) ++ (wB cI t3 c3 1 4 (4, z0) ++ (wB cI t4 c4 1 3 (3, z0) ++ (wB cI t5 c5 7 16 (0, z0) ++ (wB cI t6 c6 6 16 (0, z0) ++ (wB cI t7 c7 6 4 (4, z0) ++ (wB cI t8 c8 1 16 (0, z0) ++ (wB cI t9 c9 1 4 (4, z0) ++ (wB cI t10 c10 4 64 (64, z0))))))))))))) (ft := .object "RetryStorm$Table") inX2 tyX2 tyX2_ok nmX2 hP hD hS 0 rfl rfl 10 (by decide) wf_X2_47 rfl rfl (by decide +kernel) rfl rfl (Nat.le_of_ble_eq_true rfl) rfl dX2_init_171 (fun H locs hP hD hS => ?_)
  refine W.widen (k := 22) (n := 722) (Nat.le_of_ble_eq_true rfl) (Nat.le_of_ble_eq_true rfl) ?_
  exact kX2_init_tail C hA hz hN (ad0 sA (fun k => [0, t0, c0, t1, c1, t2, c2, t3, c3, t4, c4, t5, c5, t6, c6, t7, c7, t8, c8, t9, c9, t10, c10].getD k 0)) bornS initS_eq (fun hd hP hD hS => RET (fun k => [0, t0, c0, t1, c1, t2, c2, t3, c3, t4, c4, t5, c5, t6, c6, t7, c7, t8, c8, t9, c9, t10, c10].getD k 0) hd hP hD hS) _ _ _ hP hD hS hl
