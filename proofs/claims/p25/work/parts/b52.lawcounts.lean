/-! the law's counts -/
set_option maxHeartbeats 4000000 in
set_option maxRecDepth 100000 in
theorem law_whats {p : Program} {l : Launch} {e : Env} {s : State} {m : MethodId} {below : List Frame} {meth : Method} {c : Code} {A : Nat → Prop} {Q : State → Prop} {D : va_G} {cI cS : ClassId} {b L : Nat} {xs : Nat → Int32} {aR aU : Nat → Nat} {retL : Option FieldType} (C : Cx p s m #[Value.ref b] meth c RL cL_law 9 retL D (tyL cI cS)) (hA : ∀ q, s.heap.size ≤ q → A q) (hz : ZZ A s s.heap) (hX : XS b L xs A s s.heap) {X Y : RS} {i : Nat} (hi : i < 6) (n6 : ((X.2.1 0).1 1).1 = 6) (hYX : Y.2.1 0 = X.2.1 0)
    (NEXT : ∀ (H : Heap) (locs : List Loc) (ls : Array Slot), va_P D vwCl (wR cI cS aR X ++ wR cI cS aU Y) H → va_D A (wR cI cS aR X ++ wR cI cS aU Y) → va_S A s.heap H locs → lv_has ls 9 [(0, .ref b), (1, .ref (aR 0)), (2, .ref (aU 0)), (7, .int (nI i)), (8, .int (nI 8))] → W p l e room_1 s m #[Value.ref b] below meth c H locs (1100) (21000) Q (F0 m 280 ls [])) :
    ∀ (k w : Nat), w + k = 8 → ∀ (H : Heap) (locs : List Loc) (ls : Array Slot), va_P D vwCl (wR cI cS aR X ++ wR cI cS aU Y) H → va_D A (wR cI cS aR X ++ wR cI cS aU Y) → va_S A s.heap H locs → lv_has ls 9 [(0, .ref b), (1, .ref (aR 0)), (2, .ref (aU 0)), (7, .int (nI i)), (8, .int (nI w))] → W p l e room_1 s m #[Value.ref b] below meth c H locs (1100) (21000) Q (F0 m 246 ls []) := by
  intro k
  induction k with
  | zero =>
    intro w hw H locs ls hP hD hS hl
    obtain rfl : w = 8 := by omega
    refine x_iload C dL_law_246 hl 4 rfl ?_
    refine x_bipush (v := (8 : Int32)) C dL_law_248 (by decide) ?_
    refine x_icmp_ge (tgt := 280) (X := some ()) (Y := none) (q := ()) C (if_pos (show (8 : Int32) ≤ nI 8 by decide)) dL_law_250 (by decide) (fun _ => ?_) (fun z => nomatch z)
    exact NEXT _ _ _ hP hD hS hl
  | succ k ih =>
    intro w hw H locs ls hP hD hS hl
    have hx := cnt_X (X := X) n6 hi (w := w) (by omega)
    have hy : fX5_count (nI i) (nI w) Y = some (((X.2.1 0).1 1).2 i w) := by
      have := cnt_X (X := Y) (by rw [hYX]; exact n6) hi (w := w) (by omega)
      rw [hYX] at this
      exact this
    refine x_iload C dL_law_246 hl 4 rfl ?_
    refine x_bipush (v := (8 : Int32)) C dL_law_248 (by decide) ?_
    refine x_icmp_ge (tgt := 280) (X := none) (Y := some ()) (q := ()) C (if_neg (show ¬ (8 : Int32) ≤ nI w from nI_ge (b := 8) (by omega) (by omega))) dL_law_250 (by decide) (fun z => nomatch z) (fun _ => ?_)
    refine x_aload_n C dL_law_253 rfl hl 1 rfl ?_
    refine x_iload C dL_law_254 hl 3 rfl ?_
    refine x_iload C dL_law_256 hl 4 rfl ?_
    refine x_callV (As := [.int _, .int _]) (n := 2) C (Mc.atL (kX5_count l D cI cS aR _ _ X hx) (wR cI cS aU Y)) (fun hh => nomatch hh) wm_L_52 wi_X5_count we_X5_count wz_X5 wc_X5_count (by decide +kernel) rfl hP hD hS hA 0 2 (wRR_1 cI cS aR aU X Y) rfl rfl hl.1 dL_law_258 rfl (Nat.le_of_ble_eq_true rfl) ⟨Nat.le_of_ble_eq_true rfl, Nat.le_of_ble_eq_true rfl⟩ ⟨Nat.le_of_ble_eq_true rfl, Nat.le_of_ble_eq_true rfl⟩ (fun H locs hP hD hS => ?_)
    refine x_aload_n C dL_law_261 rfl hl 2 rfl ?_
    refine x_iload C dL_law_262 hl 3 rfl ?_
    refine x_iload C dL_law_264 hl 4 rfl ?_
    refine x_callV (As := [.int _, .int _]) (n := 2) C (Mc.atR (kX5_count l D cI cS aU _ _ Y hy) (wR cI cS aR X)) (fun hh => nomatch hh) wm_L_52 wi_X5_count we_X5_count wz_X5 wc_X5_count (by decide +kernel) rfl hP hD hS hA 140 2 (wRR_2 cI cS aR aU X Y) rfl rfl hl.1 dL_law_266 rfl (Nat.le_of_ble_eq_true rfl) ⟨Nat.le_of_ble_eq_true rfl, Nat.le_of_ble_eq_true rfl⟩ ⟨Nat.le_of_ble_eq_true rfl, Nat.le_of_ble_eq_true rfl⟩ (fun H locs hP hD hS => ?_)
    refine x_icmp_eq (tgt := 274) (X := some ()) (Y := none) (q := ()) C (if_pos rfl) dL_law_269 (by decide) (fun _ => ?_) (fun z => nomatch z)
    refine x_iinc (v := (nI (w + 1))) (lv' := [(8, .int (nI (w + 1))), (0, .ref b), (1, .ref (aR 0)), (2, .ref (aU 0)), (7, .int (nI i))]) C dL_law_274 hl (k := 4) rfl (nA_1 _) (by decide) rfl (fun ls hl => ?_)
    refine x_goto (tgt := 246) C dL_law_277 (by decide) ?_
    exact ih (w + 1) (by omega) _ _ _ hP hD hS (lv_sub hl [1, 2, 3, 4, 0] rfl)
set_option maxHeartbeats 4000000 in
set_option maxRecDepth 100000 in
theorem law_counts {p : Program} {l : Launch} {e : Env} {s : State} {m : MethodId} {below : List Frame} {meth : Method} {c : Code} {A : Nat → Prop} {Q : State → Prop} {D : va_G} {cI cS : ClassId} {b L : Nat} {xs : Nat → Int32} {aR aU : Nat → Nat} {retL : Option FieldType} (C : Cx p s m #[Value.ref b] meth c RL cL_law 9 retL D (tyL cI cS)) (hA : ∀ q, s.heap.size ≤ q → A q) (hz : ZZ A s s.heap) (hX : XS b L xs A s s.heap) {X Y : RS} (n6 : ((X.2.1 0).1 1).1 = 6) (hYX : Y.2.1 0 = X.2.1 0)
    (NEXT : ∀ (H : Heap) (locs : List Loc) (ls : Array Slot), va_P D vwCl (wR cI cS aR X ++ wR cI cS aU Y) H → va_D A (wR cI cS aR X ++ wR cI cS aU Y) → va_S A s.heap H locs → lv_has ls 9 [(0, .ref b), (1, .ref (aR 0)), (2, .ref (aU 0))] → W p l e room_1 s m #[Value.ref b] below meth c H locs (1100) (21000) Q (F0 m 286 ls [])) :
    ∀ (k i : Nat), i + k = 6 → ∀ (H : Heap) (locs : List Loc) (ls : Array Slot), va_P D vwCl (wR cI cS aR X ++ wR cI cS aU Y) H → va_D A (wR cI cS aR X ++ wR cI cS aU Y) → va_S A s.heap H locs → lv_has ls 9 [(0, .ref b), (1, .ref (aR 0)), (2, .ref (aU 0)), (7, .int (nI i))] → W p l e room_1 s m #[Value.ref b] below meth c H locs (1100) (21000) Q (F0 m 236 ls []) := by
  intro k
  induction k with
  | zero =>
    intro i hi H locs ls hP hD hS hl
    obtain rfl : i = 6 := by omega
    refine x_iload C dL_law_236 hl 3 rfl ?_
    refine x_bipush (v := (6 : Int32)) C dL_law_238 (by decide) ?_
    refine x_icmp_ge (tgt := 286) (X := some ()) (Y := none) (q := ()) C (if_pos (show (6 : Int32) ≤ nI 6 by decide)) dL_law_240 (by decide) (fun _ => ?_) (fun z => nomatch z)
    exact NEXT _ _ _ hP hD hS (lv_sub hl [0, 1, 2] rfl)
  | succ k ih =>
    intro i hi H locs ls hP hD hS hl
    refine x_iload C dL_law_236 hl 3 rfl ?_
    refine x_bipush (v := (6 : Int32)) C dL_law_238 (by decide) ?_
    refine x_icmp_ge (tgt := 286) (X := none) (Y := some ()) (q := ()) C (if_neg (show ¬ (6 : Int32) ≤ nI i from nI_ge (b := 6) (by omega) (by omega))) dL_law_240 (by decide) (fun z => nomatch z) (fun _ => ?_)
    refine x_iconst (v := (0 : Int32)) C dL_law_243 (by decide) ?_
    refine x_istore (lv' := [(8, .int (nI 0)), (0, .ref b), (1, .ref (aR 0)), (2, .ref (aU 0)), (7, .int (nI i))]) C dL_law_244 hl (by decide) rfl (fun ls hl => ?_)
    refine law_whats C hA hz hX (i := i) (by omega) n6 hYX ?_ 8 0 (by omega) _ _ _ hP hD hS (lv_sub hl [1, 2, 3, 4, 0] rfl)
    intro H locs ls hP hD hS hl
    refine x_iinc (v := (nI (i + 1))) (lv' := [(7, .int (nI (i + 1))), (0, .ref b), (1, .ref (aR 0)), (2, .ref (aU 0)), (8, .int (nI 8))]) C dL_law_280 hl (k := 3) rfl (nA_1 _) (by decide) rfl (fun ls hl => ?_)
    refine x_goto (tgt := 236) C dL_law_283 (by decide) ?_
    exact ih (i + 1) (by omega) _ _ _ hP hD hS (lv_sub hl [1, 2, 3, 0] rfl)
