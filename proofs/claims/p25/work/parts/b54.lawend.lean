/-! the law's end -/
set_option maxHeartbeats 4000000 in
set_option maxRecDepth 100000 in
theorem law_end {p : Program} {l : Launch} {e : Env} {s : State} {m : MethodId} {below : List Frame} {meth : Method} {c : Code} {A : Nat → Prop} {Q : State → Prop} {D : va_G} {cI cS : ClassId} {b L : Nat} {xs : Nat → Int32} {aR aU : Nat → Nat} {retL : Option FieldType} (C : Cx p s m #[Value.ref b] meth c RL cL_law 9 retL D (tyL cI cS)) (hA : ∀ q, s.heap.size ≤ q → A q) (hz : ZZ A s s.heap) (hX : XS b L xs A s s.heap) {X Y Y' : RS} {a8 a9 n8 n9 : Nat} (h38 : fL_cell L xs (38 : Int32) = some (nI a8)) (e38 : (1 : Int32) + (nI a8 - nI a8 / (15 : Int32) * (15 : Int32)) = nI n8) (h39 : fL_cell L xs (39 : Int32) = some (nI a9)) (e39 : nI a9 - nI a9 / (4 : Int32) * (4 : Int32) = nI n9) (hb : fL_wouldBe (nI n8) (nI n9) Y = some (1, Y')) (r0 : fX5_run (0 : Int32) X = some (-1, X)) (r1 : fX5_run (101 : Int32) X = some (-1, X))
    (NEXT : ∀ (H : Heap) (locs : List Loc) (ls : Array Slot), va_S A s.heap H locs → W p l e room_1 s m #[Value.ref b] below meth c H locs (1100) (21000) Q (F0 m 336 ls [.int 1])) :
    ∀ (H : Heap) (locs : List Loc) (ls : Array Slot), va_P D vwCl (wR cI cS aR X ++ wR cI cS aU Y) H → va_D A (wR cI cS aR X ++ wR cI cS aU Y) → va_S A s.heap H locs → lv_has ls 9 [(0, .ref b), (1, .ref (aR 0)), (2, .ref (aU 0))] → W p l e room_1 s m #[Value.ref b] below meth c H locs (1100) (21000) Q (F0 m 286 ls []) := by
  intro H locs ls hP hD hS hl
  refine x_aload_n C dL_law_286 rfl hl 2 rfl ?_
  refine x_iconst (v := (1 : Int32)) C dL_law_287 (by decide) ?_
  refine x_aload_n C dL_law_288 rfl hl 0 rfl ?_
  refine x_bipush (v := (38 : Int32)) C dL_law_289 (by decide) ?_
  refine x_callM (As := [.ref _, .int _]) (n := 2) (b := b) (L := L) (xs := xs) C (kL_cell l D cI cS b L xs (wR cI cS aR X ++ wR cI cS aU Y) _ h38) hz hX wm_L_9 wt_L_cell wz_L wc_L_cell (by decide +kernel) rfl hP hD hS hA hl.1 dL_law_291 rfl (Nat.le_of_ble_eq_true rfl) ⟨Nat.le_of_ble_eq_true rfl, Nat.le_of_ble_eq_true rfl⟩ ⟨Nat.le_of_ble_eq_true rfl, Nat.le_of_ble_eq_true rfl⟩ (fun H locs hP hD hS => ?_)
  refine x_bipush (v := (15 : Int32)) C dL_law_294 (by decide) ?_
  refine x_iremK C (by decide) dL_law_296 ?_
  refine x_iadd C dL_law_297 ?_
  rw [e38]
  refine x_aload_n C dL_law_298 rfl hl 0 rfl ?_
  refine x_bipush (v := (39 : Int32)) C dL_law_299 (by decide) ?_
  refine x_callM (As := [.ref _, .int _]) (n := 2) (b := b) (L := L) (xs := xs) C (kL_cell l D cI cS b L xs (wR cI cS aR X ++ wR cI cS aU Y) _ h39) hz hX wm_L_9 wt_L_cell wz_L wc_L_cell (by decide +kernel) rfl hP hD hS hA hl.1 dL_law_301 rfl (Nat.le_of_ble_eq_true rfl) ⟨Nat.le_of_ble_eq_true rfl, Nat.le_of_ble_eq_true rfl⟩ ⟨Nat.le_of_ble_eq_true rfl, Nat.le_of_ble_eq_true rfl⟩ (fun H locs hP hD hS => ?_)
  refine x_iconst (v := (4 : Int32)) C dL_law_304 (by decide) ?_
  refine x_iremK C (by decide) dL_law_305 ?_
  rw [e39]
  refine x_callM (As := [.ref _, .int _, .int _]) (n := 3) (b := b) (L := L) (xs := xs) C ((kL_wouldBe l D cI cS b L xs aU (nI n8) (nI n9) Y hb).atR (wR cI cS aR X)) hz hX wm_L_94 wt_L_wouldBe wz_L wc_L_wouldBe (by decide +kernel) rfl hP hD hS hA hl.1 dL_law_306 rfl (Nat.le_of_ble_eq_true rfl) ⟨Nat.le_of_ble_eq_true rfl, Nat.le_of_ble_eq_true rfl⟩ ⟨Nat.le_of_ble_eq_true rfl, Nat.le_of_ble_eq_true rfl⟩ (fun H locs hP hD hS => ?_)
  refine x_if_eq (tgt := 335) (X := none) (Y := some ()) (q := ()) C (if_neg (show ¬ (1 : Int32) = 0 by decide)) dL_law_309 (by decide) (fun z => nomatch z) (fun _ => ?_)
  refine x_aload_n C dL_law_312 rfl hl 1 rfl ?_
  refine x_iconst (v := (0 : Int32)) C dL_law_313 (by decide) ?_
  refine x_callV (As := [.int _]) (n := 1) C (Mc.atL (kX5_run l D cI cS aR _ X r0) (wR cI cS aU Y')) (fun hh => nomatch hh) wm_L_58 wi_X5_run we_X5_run wz_X5 wc_X5_run (by decide +kernel) rfl hP hD hS hA 0 2 (wRR_1 cI cS aR aU X Y') rfl rfl hl.1 dL_law_314 rfl (Nat.le_of_ble_eq_true rfl) ⟨Nat.le_of_ble_eq_true rfl, Nat.le_of_ble_eq_true rfl⟩ ⟨Nat.le_of_ble_eq_true rfl, Nat.le_of_ble_eq_true rfl⟩ (fun H locs hP hD hS => ?_)
  refine x_iconst (v := (-1 : Int32)) C dL_law_317 (by decide) ?_
  refine x_icmp_ne (tgt := 335) (X := some ()) (Y := none) (q := ()) C (if_pos rfl) dL_law_318 (by decide) (fun z => nomatch z) (fun _ => ?_)
  refine x_aload_n C dL_law_321 rfl hl 1 rfl ?_
  refine x_bipush (v := (101 : Int32)) C dL_law_322 (by decide) ?_
  refine x_callV (As := [.int _]) (n := 1) C (Mc.atL (kX5_run l D cI cS aR _ X r1) (wR cI cS aU Y')) (fun hh => nomatch hh) wm_L_58 wi_X5_run we_X5_run wz_X5 wc_X5_run (by decide +kernel) rfl hP hD hS hA 0 2 (wRR_1 cI cS aR aU X Y') rfl rfl hl.1 dL_law_324 rfl (Nat.le_of_ble_eq_true rfl) ⟨Nat.le_of_ble_eq_true rfl, Nat.le_of_ble_eq_true rfl⟩ ⟨Nat.le_of_ble_eq_true rfl, Nat.le_of_ble_eq_true rfl⟩ (fun H locs hP hD hS => ?_)
  refine x_iconst (v := (-1 : Int32)) C dL_law_327 (by decide) ?_
  refine x_icmp_ne (tgt := 335) (X := some ()) (Y := none) (q := ()) C (if_pos rfl) dL_law_328 (by decide) (fun z => nomatch z) (fun _ => ?_)
  refine x_iconst (v := (1 : Int32)) C dL_law_331 (by decide) ?_
  refine x_goto (tgt := 336) C dL_law_332 (by decide) ?_
  exact NEXT _ _ _ hS
