/-! the law's ticks -/
set_option maxHeartbeats 4000000 in
set_option maxRecDepth 100000 in
theorem law_loop {p : Program} {l : Launch} {e : Env} {s : State} {m : MethodId} {below : List Frame} {meth : Method} {c : Code} {A : Nat → Prop} {Q : State → Prop} {D : va_G} {cI cS : ClassId} {b L : Nat} {xs : Nat → Int32} {aR aU : Nat → Nat} {retL : Option FieldType} (C : Cx p s m #[Value.ref b] meth c RL cL_law 9 retL D (tyL cI cS)) (hA : ∀ q, s.heap.size ≤ q → A q) (hz : ZZ A s s.heap) (hX : XS b L xs A s s.heap) {a N : Nat} {sv : N1} {Y : RS} {S0 : StS} (hN : N ≤ 16) (h36 : fL_cell L xs (36 : Int32) = some (nI a)) (hs : Sv (nI a) sv)
    (DONE : ∀ (X : RS) (dn : Int32), Iv (45 + N) sv X → pS N S0 (X.2.1 0) → dn = ssum 1 (X.2.1 0) 2 - ssum 1 S0 2 → ∀ (H : Heap) (locs : List Loc) (ls : Array Slot), va_P D vwCl (wR cI cS aR X ++ wR cI cS aU Y) H → va_D A (wR cI cS aR X ++ wR cI cS aU Y) → va_S A s.heap H locs → lv_has ls 9 [(0, .ref b), (1, .ref (aR 0)), (2, .ref (aU 0)), (3, .int (nI (sv 0))), (4, .int (nI (sv 2))), (5, .int (nI N)), (6, .int dn), (7, .int (nI N))] → W p l e room_1 s m #[Value.ref b] below meth c H locs (1000 + N) (20000 + 6 * N) Q (F0 m 166 ls [])) :
    ∀ (k t : Nat) (X : RS) (dn : Int32), t + k = N → Iv (45 + t) sv X → pS t S0 (X.2.1 0) → dn = ssum 1 (X.2.1 0) 2 - ssum 1 S0 2 → ∀ (H : Heap) (locs : List Loc) (ls : Array Slot), va_P D vwCl (wR cI cS aR X ++ wR cI cS aU Y) H → va_D A (wR cI cS aR X ++ wR cI cS aU Y) → va_S A s.heap H locs → lv_has ls 9 [(0, .ref b), (1, .ref (aR 0)), (2, .ref (aU 0)), (3, .int (nI (sv 0))), (4, .int (nI (sv 2))), (5, .int (nI N)), (6, .int dn), (7, .int (nI t))] → W p l e room_1 s m #[Value.ref b] below meth c H locs (1000 + t) (20000 + 6 * t) Q (F0 m 79 ls []) := by
  have b1 := hs.2 1 (by omega)
  have b3 := hs.2 3 (by omega)
  have m1 : mxS 1 = 16 := rfl
  have m3 : mxS 3 = 16 := rfl
  intro k
  induction k with
  | zero =>
    intro t X dn ht hI hp hd H locs ls hP hD hS hl
    obtain rfl : t = N := by omega
    refine x_iload C dL_law_79 hl 7 rfl ?_
    refine x_iload C dL_law_81 hl 5 rfl ?_
    refine x_icmp_ge (tgt := 166) (X := some ()) (Y := none) (q := ()) C (if_pos (show nI t ≤ nI t from nI_le (by omega) (by omega))) dL_law_83 (by decide) (fun _ => ?_) (fun z => nomatch z)
    exact DONE X dn hI hp hd H locs ls hP hD hS hl
  | succ k ih =>
    intro t X dn ht hI hp hd H locs ls hP hD hS hl
    obtain ⟨X', hq, hps, hI', hw⟩ := ticks_1 (n := 45 + t) (by omega) hI
    have hr := hI'.req (by omega)
    obtain ⟨⟨x3, k3, x3l⟩, x4, k4, x4l⟩ := hI'.bounds (by omega)
    have hp' : pS (t + 1) S0 (X'.2.1 0) := pS.snoc t hp hps
    have hd' : dn + (ssum 1 (X'.2.1 0) 2 - ssum 1 (X.2.1 0) 2) = ssum 1 (X'.2.1 0) 2 - ssum 1 S0 2 := by
      rw [hd]
      exact i32_tel _ _ _
    refine x_iload C dL_law_79 hl 7 rfl ?_
    refine x_iload C dL_law_81 hl 5 rfl ?_
    refine x_icmp_ge (tgt := 166) (X := none) (Y := some ()) (q := ()) C (if_neg (show ¬ nI N ≤ nI t from nI_ge (by omega) (by omega))) dL_law_83 (by decide) (fun z => nomatch z) (fun _ => ?_)
    refine x_aload_n C dL_law_86 rfl hl 1 rfl ?_
    refine x_iload_n C dL_law_87 rfl hl 3 rfl ?_
    refine x_iload C dL_law_88 hl 4 rfl ?_
    refine x_callM (As := [.ref _, .int _, .int _]) (n := 3) (b := b) (L := L) (xs := xs) C ((kL_ticks l D cI cS b L xs aR (nI (sv 0)) (nI (sv 2)) X hq).atL (wR cI cS aU Y)) hz hX wm_L_83 wt_L_ticks wz_L wc_L_ticks (by decide +kernel) rfl hP hD hS hA hl.1 dL_law_90 rfl (Nat.le_of_ble_eq_true rfl) ⟨Nat.le_of_ble_eq_true rfl, Nat.le_of_ble_eq_true rfl⟩ (by show 1000 + t + 0 ≤ 600000 ∧ 20000 + 6 * t + 0 ≤ 7302249; omega) (fun H locs hP hD hS => ?_)
    refine x_if_eq (tgt := 103) (X := none) (Y := some ()) (q := ()) C (if_neg (show ¬ (1 : Int32) = 0 by decide)) dL_law_93 (by decide) (fun z => nomatch z) (fun _ => ?_)
    refine x_aload_n C dL_law_96 rfl hl 1 rfl ?_
    refine x_callM (As := [.ref _]) (n := 1) (b := b) (L := L) (xs := xs) C ((kL_requests l D cI cS b L xs aR X' hr).atL (wR cI cS aU Y)) hz hX wm_L_87 wt_L_requests wz_L wc_L_requests (by decide +kernel) rfl hP hD hS hA hl.1 dL_law_97 rfl (Nat.le_of_ble_eq_true rfl) ⟨Nat.le_of_ble_eq_true rfl, Nat.le_of_ble_eq_true rfl⟩ (by show 1000 + t + 0 + 1 ≤ 600000 ∧ 20000 + 6 * t + 0 + 6 ≤ 7302249; omega) (fun H locs hP hD hS => ?_)
    refine x_if_ne (tgt := 105) (X := none) (Y := some ()) (q := ()) C (if_neg (show ¬ (1 : Int32) = 0 by decide)) dL_law_100 (by decide) (fun _ => ?_) (fun z => nomatch z)
    refine W.widen (k := 1000 + (t + 1)) (n := 20000 + 6 * (t + 1)) (by omega) (by omega) ?_
    refine x_iload C dL_law_105 hl 6 rfl ?_
    refine x_aload_n C dL_law_107 rfl hl 1 rfl ?_
    refine x_iconst (v := (1 : Int32)) C dL_law_108 (by decide) ?_
    refine x_iconst (v := (1 : Int32)) C dL_law_109 (by decide) ?_
    refine x_callV (As := [.int _, .int _]) (n := 2) C (Mc.atL (kX5_window l D cI cS aR _ _ X' hw) (wR cI cS aU Y)) (fun hh => nomatch hh) wm_L_61 wi_X5_window we_X5_window wz_X5 wc_X5_window (by decide +kernel) rfl hP hD hS hA 0 2 (wRR_1 cI cS aR aU X' Y) rfl rfl hl.1 dL_law_110 rfl (Nat.le_of_ble_eq_true rfl) ⟨Nat.le_of_ble_eq_true rfl, Nat.le_of_ble_eq_true rfl⟩ (by show 1000 + (t + 1) ≤ 600000 ∧ 20000 + 6 * (t + 1) ≤ 7302249; omega) (fun H locs hP hD hS => ?_)
    refine x_iadd C dL_law_113 ?_
    refine x_istore (lv' := [(6, .int (dn + (ssum 1 (X'.2.1 0) 2 - ssum 1 (X.2.1 0) 2))), (0, .ref b), (1, .ref (aR 0)), (2, .ref (aU 0)), (3, .int (nI (sv 0))), (4, .int (nI (sv 2))), (5, .int (nI N)), (7, .int (nI t))]) C dL_law_114 hl (by decide) rfl (fun ls hl => ?_)
    refine x_aload_n C dL_law_116 rfl hl 2 rfl ?_
    refine x_iconst (v := (3 : Int32)) C dL_law_117 (by decide) ?_
    refine x_callV (As := [.int _]) (n := 1) C (Mc.atL (kX5_told l D cI cS aR _ X' k3) (wR cI cS aU Y)) (fun hh => nomatch hh) wm_L_43 wi_X5_told we_X5_told wz_X5 wc_X5_told (by decide +kernel) rfl hP hD hS hA 0 2 (wRR_1 cI cS aR aU X' Y) rfl rfl hl.1 dL_law_118 rfl (Nat.le_of_ble_eq_true rfl) ⟨Nat.le_of_ble_eq_true rfl, Nat.le_of_ble_eq_true rfl⟩ (by show 1000 + (t + 1) ≤ 600000 ∧ 20000 + 6 * (t + 1) ≤ 7302249; omega) (fun H locs hP hD hS => ?_)
    refine x_iconst (v := (1 : Int32)) C dL_law_121 (by decide) ?_
    refine x_aload_n C dL_law_122 rfl hl 1 rfl ?_
    refine x_bipush (v := (36 : Int32)) C dL_law_123 (by decide) ?_
    refine x_callM (As := [.ref _, .int _]) (n := 2) (b := b) (L := L) (xs := xs) C (kL_cell l D cI cS b L xs (wR cI cS aR X' ++ wR cI cS aU Y) _ h36) hz hX wm_L_9 wt_L_cell wz_L wc_L_cell (by decide +kernel) rfl hP hD hS hA hl.1 dL_law_125 rfl (Nat.le_of_ble_eq_true rfl) ⟨Nat.le_of_ble_eq_true rfl, Nat.le_of_ble_eq_true rfl⟩ (by show 1000 + (t + 1) + 0 ≤ 600000 ∧ 20000 + 6 * (t + 1) + 0 ≤ 7302249; omega) (fun H locs hP hD hS => ?_)
    refine x_iconst (v := (3 : Int32)) C dL_law_128 (by decide) ?_
    refine x_ishr C dL_law_129 ?_
    refine x_bipush (v := (6 : Int32)) C dL_law_130 (by decide) ?_
    refine x_iremK C (by decide) dL_law_132 ?_
    refine x_iadd C dL_law_133 ?_
    rw [hs.1.2.1]
    refine x_icmp_gt (tgt := 158) (X := none) (Y := some ()) (q := ()) C (if_neg (show ¬ nI (sv 1) < nI x3 from nI_nlt x3l (by omega))) dL_law_134 (by decide) (fun z => nomatch z) (fun _ => ?_)
    refine x_aload_n C dL_law_137 rfl hl 2 rfl ?_
    refine x_iconst (v := (4 : Int32)) C dL_law_138 (by decide) ?_
    refine x_callV (As := [.int _]) (n := 1) C (Mc.atL (kX5_told l D cI cS aR _ X' k4) (wR cI cS aU Y)) (fun hh => nomatch hh) wm_L_43 wi_X5_told we_X5_told wz_X5 wc_X5_told (by decide +kernel) rfl hP hD hS hA 0 2 (wRR_1 cI cS aR aU X' Y) rfl rfl hl.1 dL_law_139 rfl (Nat.le_of_ble_eq_true rfl) ⟨Nat.le_of_ble_eq_true rfl, Nat.le_of_ble_eq_true rfl⟩ (by show 1000 + (t + 1) + 0 ≤ 600000 ∧ 20000 + 6 * (t + 1) + 0 ≤ 7302249; omega) (fun H locs hP hD hS => ?_)
    refine x_iconst (v := (1 : Int32)) C dL_law_142 (by decide) ?_
    refine x_aload_n C dL_law_143 rfl hl 1 rfl ?_
    refine x_bipush (v := (36 : Int32)) C dL_law_144 (by decide) ?_
    refine x_callM (As := [.ref _, .int _]) (n := 2) (b := b) (L := L) (xs := xs) C (kL_cell l D cI cS b L xs (wR cI cS aR X' ++ wR cI cS aU Y) _ h36) hz hX wm_L_9 wt_L_cell wz_L wc_L_cell (by decide +kernel) rfl hP hD hS hA hl.1 dL_law_146 rfl (Nat.le_of_ble_eq_true rfl) ⟨Nat.le_of_ble_eq_true rfl, Nat.le_of_ble_eq_true rfl⟩ (by show 1000 + (t + 1) + 0 + 0 ≤ 600000 ∧ 20000 + 6 * (t + 1) + 0 + 0 ≤ 7302249; omega) (fun H locs hP hD hS => ?_)
    refine x_bipush (v := (10 : Int32)) C dL_law_149 (by decide) ?_
    refine x_ishr C dL_law_151 ?_
    refine x_iconst (v := (4 : Int32)) C dL_law_152 (by decide) ?_
    refine x_iremK C (by decide) dL_law_153 ?_
    refine x_iadd C dL_law_154 ?_
    rw [hs.1.2.2.2]
    refine x_icmp_le (tgt := 160) (X := some ()) (Y := none) (q := ()) C (if_pos (show nI x4 ≤ nI (sv 3) from nI_le x4l (by omega))) dL_law_155 (by decide) (fun _ => ?_) (fun z => nomatch z)
    refine x_iinc (v := (nI (t + 1))) (lv' := [(7, .int (nI (t + 1))), (6, .int (dn + (ssum 1 (X'.2.1 0) 2 - ssum 1 (X.2.1 0) 2))), (0, .ref b), (1, .ref (aR 0)), (2, .ref (aU 0)), (3, .int (nI (sv 0))), (4, .int (nI (sv 2))), (5, .int (nI N))]) C dL_law_160 hl (k := 7) rfl (nA_1 _) (by decide) rfl (fun ls hl => ?_)
    refine x_goto (tgt := 79) C dL_law_163 (by decide) ?_
    exact ih (t + 1) X' _ (by omega) hI' hp' hd' _ _ _ hP hD hS (lv_sub hl [2, 3, 4, 5, 6, 7, 1, 0] rfl)
