/-! the law's run -/
set_option maxHeartbeats 4000000 in
set_option maxRecDepth 100000 in
theorem law_same {p : Program} {l : Launch} {e : Env} {s : State} {m : MethodId} {below : List Frame} {meth : Method} {c : Code} {A : Nat → Prop} {Q : State → Prop} {D : va_G} {cI cS : ClassId} {b L : Nat} {xs : Nat → Int32} {aR aU : Nat → Nat} {retL : Option FieldType} (C : Cx p s m #[Value.ref b] meth c RL cL_law 9 retL D (tyL cI cS)) (hA : ∀ q, s.heap.size ≤ q → A q) (hz : ZZ A s s.heap) (hX : XS b L xs A s s.heap) {X Y Y' : RS} {N : Nat} {dn v7 v8 v1 va : Int32} (hr : fX5_run (nI N) Y = some (dn, Y')) (u7 : fX5_told (7 : Int32) Y' = some v7) (o7 : fX5_told (7 : Int32) X = some v7) (u8 : fX5_told (8 : Int32) Y' = some v8) (o8 : fX5_told (8 : Int32) X = some v8) (u1 : fX5_told (1 : Int32) Y' = some v1) (o1 : fX5_told (1 : Int32) X = some v1) (ua : fX5_amplification Y' = some va) (oa : fX5_amplification X = some va)
    (NEXT : ∀ (H : Heap) (locs : List Loc) (ls : Array Slot), va_P D vwCl (wR cI cS aR X ++ wR cI cS aU Y') H → va_D A (wR cI cS aR X ++ wR cI cS aU Y') → va_S A s.heap H locs → lv_has ls 9 [(0, .ref b), (1, .ref (aR 0)), (2, .ref (aU 0)), (7, .int (nI 0))] → W p l e room_1 s m #[Value.ref b] below meth c H locs (1100) (21000) Q (F0 m 236 ls [])) :
    ∀ (H : Heap) (locs : List Loc) (ls : Array Slot), va_P D vwCl (wR cI cS aR X ++ wR cI cS aU Y) H → va_D A (wR cI cS aR X ++ wR cI cS aU Y) → va_S A s.heap H locs → lv_has ls 9 [(0, .ref b), (1, .ref (aR 0)), (2, .ref (aU 0)), (5, .int (nI N)), (6, .int dn)] → W p l e room_1 s m #[Value.ref b] below meth c H locs (1100) (21000) Q (F0 m 166 ls []) := by
  intro H locs ls hP hD hS hl
  refine x_aload_n C dL_law_166 rfl hl 2 rfl ?_
  refine x_iload C dL_law_167 hl 3 rfl ?_
  refine x_callV (As := [.int _]) (n := 1) C (Mc.atR (kX5_run l D cI cS aU _ Y hr) (wR cI cS aR X)) (fun hh => nomatch hh) wm_L_58 wi_X5_run we_X5_run wz_X5 wc_X5_run (by decide +kernel) rfl hP hD hS hA 140 2 (wRR_2 cI cS aR aU X Y) rfl rfl hl.1 dL_law_169 rfl (Nat.le_of_ble_eq_true rfl) ⟨Nat.le_of_ble_eq_true rfl, Nat.le_of_ble_eq_true rfl⟩ ⟨Nat.le_of_ble_eq_true rfl, Nat.le_of_ble_eq_true rfl⟩ (fun H locs hP hD hS => ?_)
  refine x_iload C dL_law_172 hl 4 rfl ?_
  refine x_icmp_ne (tgt := 231) (X := some ()) (Y := none) (q := ()) C (if_pos rfl) dL_law_174 (by decide) (fun z => nomatch z) (fun _ => ?_)
  refine x_aload_n C dL_law_177 rfl hl 2 rfl ?_
  refine x_bipush (v := (7 : Int32)) C dL_law_178 (by decide) ?_
  refine x_callV (As := [.int _]) (n := 1) C (Mc.atR (kX5_told l D cI cS aU _ Y' u7) (wR cI cS aR X)) (fun hh => nomatch hh) wm_L_43 wi_X5_told we_X5_told wz_X5 wc_X5_told (by decide +kernel) rfl hP hD hS hA 140 2 (wRR_2 cI cS aR aU X Y') rfl rfl hl.1 dL_law_180 rfl (Nat.le_of_ble_eq_true rfl) ⟨Nat.le_of_ble_eq_true rfl, Nat.le_of_ble_eq_true rfl⟩ ⟨Nat.le_of_ble_eq_true rfl, Nat.le_of_ble_eq_true rfl⟩ (fun H locs hP hD hS => ?_)
  refine x_aload_n C dL_law_183 rfl hl 1 rfl ?_
  refine x_bipush (v := (7 : Int32)) C dL_law_184 (by decide) ?_
  refine x_callV (As := [.int _]) (n := 1) C (Mc.atL (kX5_told l D cI cS aR _ X o7) (wR cI cS aU Y')) (fun hh => nomatch hh) wm_L_43 wi_X5_told we_X5_told wz_X5 wc_X5_told (by decide +kernel) rfl hP hD hS hA 0 2 (wRR_1 cI cS aR aU X Y') rfl rfl hl.1 dL_law_186 rfl (Nat.le_of_ble_eq_true rfl) ⟨Nat.le_of_ble_eq_true rfl, Nat.le_of_ble_eq_true rfl⟩ ⟨Nat.le_of_ble_eq_true rfl, Nat.le_of_ble_eq_true rfl⟩ (fun H locs hP hD hS => ?_)
  refine x_icmp_ne (tgt := 231) (X := some ()) (Y := none) (q := ()) C (if_pos rfl) dL_law_189 (by decide) (fun z => nomatch z) (fun _ => ?_)
  refine x_aload_n C dL_law_192 rfl hl 2 rfl ?_
  refine x_bipush (v := (8 : Int32)) C dL_law_193 (by decide) ?_
  refine x_callV (As := [.int _]) (n := 1) C (Mc.atR (kX5_told l D cI cS aU _ Y' u8) (wR cI cS aR X)) (fun hh => nomatch hh) wm_L_43 wi_X5_told we_X5_told wz_X5 wc_X5_told (by decide +kernel) rfl hP hD hS hA 140 2 (wRR_2 cI cS aR aU X Y') rfl rfl hl.1 dL_law_195 rfl (Nat.le_of_ble_eq_true rfl) ⟨Nat.le_of_ble_eq_true rfl, Nat.le_of_ble_eq_true rfl⟩ ⟨Nat.le_of_ble_eq_true rfl, Nat.le_of_ble_eq_true rfl⟩ (fun H locs hP hD hS => ?_)
  refine x_aload_n C dL_law_198 rfl hl 1 rfl ?_
  refine x_bipush (v := (8 : Int32)) C dL_law_199 (by decide) ?_
  refine x_callV (As := [.int _]) (n := 1) C (Mc.atL (kX5_told l D cI cS aR _ X o8) (wR cI cS aU Y')) (fun hh => nomatch hh) wm_L_43 wi_X5_told we_X5_told wz_X5 wc_X5_told (by decide +kernel) rfl hP hD hS hA 0 2 (wRR_1 cI cS aR aU X Y') rfl rfl hl.1 dL_law_201 rfl (Nat.le_of_ble_eq_true rfl) ⟨Nat.le_of_ble_eq_true rfl, Nat.le_of_ble_eq_true rfl⟩ ⟨Nat.le_of_ble_eq_true rfl, Nat.le_of_ble_eq_true rfl⟩ (fun H locs hP hD hS => ?_)
  refine x_icmp_ne (tgt := 231) (X := some ()) (Y := none) (q := ()) C (if_pos rfl) dL_law_204 (by decide) (fun z => nomatch z) (fun _ => ?_)
  refine x_aload_n C dL_law_207 rfl hl 2 rfl ?_
  refine x_iconst (v := (1 : Int32)) C dL_law_208 (by decide) ?_
  refine x_callV (As := [.int _]) (n := 1) C (Mc.atR (kX5_told l D cI cS aU _ Y' u1) (wR cI cS aR X)) (fun hh => nomatch hh) wm_L_43 wi_X5_told we_X5_told wz_X5 wc_X5_told (by decide +kernel) rfl hP hD hS hA 140 2 (wRR_2 cI cS aR aU X Y') rfl rfl hl.1 dL_law_209 rfl (Nat.le_of_ble_eq_true rfl) ⟨Nat.le_of_ble_eq_true rfl, Nat.le_of_ble_eq_true rfl⟩ ⟨Nat.le_of_ble_eq_true rfl, Nat.le_of_ble_eq_true rfl⟩ (fun H locs hP hD hS => ?_)
  refine x_aload_n C dL_law_212 rfl hl 1 rfl ?_
  refine x_iconst (v := (1 : Int32)) C dL_law_213 (by decide) ?_
  refine x_callV (As := [.int _]) (n := 1) C (Mc.atL (kX5_told l D cI cS aR _ X o1) (wR cI cS aU Y')) (fun hh => nomatch hh) wm_L_43 wi_X5_told we_X5_told wz_X5 wc_X5_told (by decide +kernel) rfl hP hD hS hA 0 2 (wRR_1 cI cS aR aU X Y') rfl rfl hl.1 dL_law_214 rfl (Nat.le_of_ble_eq_true rfl) ⟨Nat.le_of_ble_eq_true rfl, Nat.le_of_ble_eq_true rfl⟩ ⟨Nat.le_of_ble_eq_true rfl, Nat.le_of_ble_eq_true rfl⟩ (fun H locs hP hD hS => ?_)
  refine x_icmp_ne (tgt := 231) (X := some ()) (Y := none) (q := ()) C (if_pos rfl) dL_law_217 (by decide) (fun z => nomatch z) (fun _ => ?_)
  refine x_aload_n C dL_law_220 rfl hl 2 rfl ?_
  refine x_callV (As := []) (n := 0) C (Mc.atR (kX5_amplification l D cI cS aU Y' ua) (wR cI cS aR X)) (fun hh => nomatch hh) wm_L_91 wi_X5_amplification we_X5_amplification wz_X5 wc_X5_amplification (by decide +kernel) rfl hP hD hS hA 140 2 (wRR_2 cI cS aR aU X Y') rfl rfl hl.1 dL_law_221 rfl (Nat.le_of_ble_eq_true rfl) ⟨Nat.le_of_ble_eq_true rfl, Nat.le_of_ble_eq_true rfl⟩ ⟨Nat.le_of_ble_eq_true rfl, Nat.le_of_ble_eq_true rfl⟩ (fun H locs hP hD hS => ?_)
  refine x_aload_n C dL_law_224 rfl hl 1 rfl ?_
  refine x_callV (As := []) (n := 0) C (Mc.atL (kX5_amplification l D cI cS aR X oa) (wR cI cS aU Y')) (fun hh => nomatch hh) wm_L_91 wi_X5_amplification we_X5_amplification wz_X5 wc_X5_amplification (by decide +kernel) rfl hP hD hS hA 0 2 (wRR_1 cI cS aR aU X Y') rfl rfl hl.1 dL_law_225 rfl (Nat.le_of_ble_eq_true rfl) ⟨Nat.le_of_ble_eq_true rfl, Nat.le_of_ble_eq_true rfl⟩ ⟨Nat.le_of_ble_eq_true rfl, Nat.le_of_ble_eq_true rfl⟩ (fun H locs hP hD hS => ?_)
  refine x_icmp_eq (tgt := 233) (X := some ()) (Y := none) (q := ()) C (if_pos rfl) dL_law_228 (by decide) (fun _ => ?_) (fun z => nomatch z)
  refine x_iconst (v := (0 : Int32)) C dL_law_233 (by decide) ?_
  refine x_istore (lv' := [(7, .int (nI 0)), (0, .ref b), (1, .ref (aR 0)), (2, .ref (aU 0)), (5, .int (nI N)), (6, .int dn)]) C dL_law_234 hl (by decide) rfl (fun ls hl => ?_)
  exact NEXT _ _ _ hP hD hS (lv_sub hl [1, 2, 3, 0] rfl)
