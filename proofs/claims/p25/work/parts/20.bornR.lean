theorem dX5_init_0 : decode cX5_init 0 = .ok (.aload_n 0, 1) := by decide +kernel
theorem dX5_init_1 : decode cX5_init 1 = .ok (.invokespecial 1, 3) := by decide +kernel
theorem dX5_init_4 : decode cX5_init 4 = .ok (.aload_n 0, 1) := by decide +kernel
theorem dX5_init_5 : decode cX5_init 5 = .ok (.new 7, 3) := by decide +kernel
theorem dX5_init_8 : decode cX5_init 8 = .ok (.dup, 1) := by decide +kernel
theorem dX5_init_9 : decode cX5_init 9 = .ok (.invokespecial 9, 3) := by decide +kernel
theorem dX5_init_12 : decode cX5_init 12 = .ok (.putfield 10, 3) := by decide +kernel
theorem dX5_init_15 : decode cX5_init 15 = .ok (.aload_n 0, 1) := by decide +kernel
theorem dX5_init_16 : decode cX5_init 16 = .ok (.new 7, 3) := by decide +kernel
theorem dX5_init_19 : decode cX5_init 19 = .ok (.dup, 1) := by decide +kernel
theorem dX5_init_20 : decode cX5_init 20 = .ok (.invokespecial 9, 3) := by decide +kernel
theorem dX5_init_23 : decode cX5_init 23 = .ok (.putfield 16, 3) := by decide +kernel
theorem dX5_init_26 : decode cX5_init 26 = .ok (.aload_n 0, 1) := by decide +kernel
theorem dX5_init_27 : decode cX5_init 27 = .ok (.iconst 4, 1) := by decide +kernel
theorem dX5_init_28 : decode cX5_init 28 = .ok (.anewarray 7, 3) := by decide +kernel
theorem dX5_init_31 : decode cX5_init 31 = .ok (.putfield 19, 3) := by decide +kernel
theorem dX5_init_34 : decode cX5_init 34 = .ok (.iconst 0, 1) := by decide +kernel
theorem dX5_init_35 : decode cX5_init 35 = .ok (.istore_n 1, 1) := by decide +kernel
theorem dX5_init_36 : decode cX5_init 36 = .ok (.iload_n 1, 1) := by decide +kernel
theorem dX5_init_37 : decode cX5_init 37 = .ok (.aload_n 0, 1) := by decide +kernel
theorem dX5_init_38 : decode cX5_init 38 = .ok (.getfield 19, 3) := by decide +kernel
theorem dX5_init_41 : decode cX5_init 41 = .ok (.arraylength, 1) := by decide +kernel
theorem dX5_init_42 : decode cX5_init 42 = .ok (.if_icmp .ge 22, 3) := by decide +kernel
theorem dX5_init_45 : decode cX5_init 45 = .ok (.aload_n 0, 1) := by decide +kernel
theorem dX5_init_46 : decode cX5_init 46 = .ok (.getfield 19, 3) := by decide +kernel
theorem dX5_init_49 : decode cX5_init 49 = .ok (.iload_n 1, 1) := by decide +kernel
theorem dX5_init_50 : decode cX5_init 50 = .ok (.new 7, 3) := by decide +kernel
theorem dX5_init_53 : decode cX5_init 53 = .ok (.dup, 1) := by decide +kernel
theorem dX5_init_54 : decode cX5_init 54 = .ok (.invokespecial 9, 3) := by decide +kernel
theorem dX5_init_57 : decode cX5_init 57 = .ok (.aastore, 1) := by decide +kernel
theorem dX5_init_58 : decode cX5_init 58 = .ok (.iinc 1 1, 3) := by decide +kernel
theorem dX5_init_61 : decode cX5_init 61 = .ok (.goto (-25), 3) := by decide +kernel
theorem dX5_init_64 : decode cX5_init 64 = .ok (.return_, 1) := by decide +kernel
def bornR (rA : Nat) (u : Nat × (Nat → Nat → Nat)) (cI cS : ClassId) : va_W := wR cI cS (fun k => if k = 0 then rA else u.1) (u.2, fun _ => initS, 0)
theorem born_perm {D : va_G} {cI cS : ClassId} {rA qa : Nat} {A : Nat → Prop} {B : Nat → Nat → Nat} {g : Nat → Option Nat} {H : Heap} (hg : ∀ j, j < 4 → g j = some (B (j + 2) 0)) (hP : va_P D vwCl ([(rA, .inr (2, [.ref (B 0 0), .ref (B 1 0), .ref qa, .int 0]))] ++ (wS cI (B 0) initS ++ (wS cI (B 1) initS ++ ([(qa, .inl (cS, 4, .inr (.inr (.inr (.inr g)))))] ++ (wS cI (B 2) initS ++ (wS cI (B 3) initS ++ (wS cI (B 4) initS ++ (wS cI (B 5) initS)))))))) H) (hD : va_D A ([(rA, .inr (2, [.ref (B 0 0), .ref (B 1 0), .ref qa, .int 0]))] ++ (wS cI (B 0) initS ++ (wS cI (B 1) initS ++ ([(qa, .inl (cS, 4, .inr (.inr (.inr (.inr g)))))] ++ (wS cI (B 2) initS ++ (wS cI (B 3) initS ++ (wS cI (B 4) initS ++ (wS cI (B 5) initS))))))))) : va_P D vwCl (bornR rA (qa, B) cI cS) H ∧ va_D A (bornR rA (qa, B) cI cS) := by
  have hp : (wRg cI cS (fun k => if k = 0 then rA else qa) (B, fun _ => initS, 0) g 0).Perm ([(rA, .inr (2, [.ref (B 0 0), .ref (B 1 0), .ref qa, .int 0]))] ++ (wS cI (B 0) initS ++ (wS cI (B 1) initS ++ ([(qa, .inl (cS, 4, .inr (.inr (.inr (.inr g)))))] ++ (wS cI (B 2) initS ++ (wS cI (B 3) initS ++ (wS cI (B 4) initS ++ (wS cI (B 5) initS)))))))) := by
    refine List.Perm.append_left ([(rA, .inr (2, [.ref (B 0 0), .ref (B 1 0), .ref qa, .int 0]))] : va_W) ?_
    refine (List.perm_append_comm_assoc ([(qa, .inl (cS, 4, .inr (.inr (.inr (.inr g)))))] : va_W) _ _).trans (List.Perm.append_left _ ?_)
    exact List.perm_append_comm_assoc _ _ _
  have hD' := va_D_nd.mp hD
  refine ⟨wRg_congr (X := (B, fun _ => initS, 0)) hg H (va_P_mem.mpr fun q hq => va_P_mem.mp hP q (hp.mem_iff.mp hq)), va_D_nd.mpr ⟨?_, fun q hq => ?_⟩⟩
  · exact (hp.map Prod.fst).nodup_iff.mpr hD'.1
  · have hm : q.1 ∈ (wRg cI cS (fun k => if k = 0 then rA else qa) (B, fun _ => initS, 0) g 0).map Prod.fst := (show q.1 ∈ (bornR rA (qa, B) cI cS).map Prod.fst from List.mem_map.mpr ⟨q, hq, rfl⟩)
    obtain ⟨q', h1, h2⟩ := List.mem_map.mp ((hp.map Prod.fst).mem_iff.mp hm)
    rw [← h2]
    exact hD'.2 q' h1
set_option maxHeartbeats 4000000 in
set_option maxRecDepth 100000 in
theorem kX5_init (l : Launch) (D : va_G) (cI cS : ClassId) (rA : Nat) : McN l D (tyL cI cS) yX5_init cX5_init 2 4 [.ref rA] [(rA, .inr (2, [.null, .null, .null, .int 0]))] 139 4444 (fun u => bornR rA u cI cS) := by
  refine McN_of RX5 (by decide +kernel) rfl wc_X5_init (Nat.le_of_ble_eq_true rfl) ?_
  intro p e s m args below meth c A Q ls C hnm hA hz hN hP hD hS hl RET
  refine x_aload_n C dX5_init_0 rfl hl 0 rfl ?_
  refine x_obj C wm_X5_1 hl.1 dX5_init_1 (Nat.le_of_ble_eq_true rfl) (Nat.le_of_ble_eq_true rfl) ?_
  refine x_aload_n C dX5_init_4 rfl hl 0 rfl ?_
  refine x_new C (ci := 0) (fs := [.null, .null, .null, .null, .null, .null, .null, .null, .null, .null, .null, .int 0, .int 0, .int 0, .int 0, .int 0, .int 0, .int 0]) inX2 tyX2 tyX2_ok wk_X5_7 wa_X2 wz_X2 hP hD hS hA rfl (fun j hj => by rcases (show j = 0 ∨ j = 1 ∨ j = 2 ∨ j = 3 ∨ j = 4 ∨ j = 5 ∨ j = 6 ∨ j = 7 ∨ j = 8 ∨ j = 9 ∨ j = 10 ∨ j = 11 ∨ j = 12 ∨ j = 13 ∨ j = 14 ∨ j = 15 ∨ j = 16 ∨ j = 17 by omega) with rfl | rfl | rfl | rfl | rfl | rfl | rfl | rfl | rfl | rfl | rfl | rfl | rfl | rfl | rfl | rfl | rfl | rfl <;> rfl) (Nat.le_of_ble_eq_true rfl) (Nat.le_of_ble_eq_true rfl) dX5_init_5 (fun q0 H hP hD hS => ?_)
  refine x_dup C dX5_init_8 rfl ?_
  refine x_callI (n := 0) (wr := [(rA, .inr (2, [.null, .null, .null, .int 0]))]) (wc := [(q0, .inr (0, [.null, .null, .null, .null, .null, .null, .null, .null, .null, .null, .null, .int 0, .int 0, .int 0, .int 0, .int 0, .int 0, .int 0]))]) (As := []) C (kX2_init l D cI cS q0) hz hN wm_X5_9 wi_X2_init wz_X2 wc_X2_init (by decide +kernel) rfl hP hD hS hA hl.1 dX5_init_9 rfl (Nat.le_of_ble_eq_true rfl) ⟨Nat.le_of_ble_eq_true rfl, Nat.le_of_ble_eq_true rfl⟩ ⟨Nat.le_of_ble_eq_true rfl, Nat.le_of_ble_eq_true rfl⟩ (fun u0 H locs hP hD hS => ?_)
  refine x_putF C hnm (ws' := [(rA, .inr (2, [.ref q0, .null, .null, .int 0]))] ++ (wS cI (ad0 q0 u0) initS)) (ft := .object "RetryStorm$State") inX5 tyX5 tyX5_ok nmX5 hP hD hS 0 rfl rfl 0 (by decide) wf_X5_10 rfl rfl (by decide +kernel) rfl rfl (Nat.le_of_ble_eq_true rfl) rfl dX5_init_12 (fun H locs hP hD hS => ?_)
  refine x_aload_n C dX5_init_15 rfl hl 0 rfl ?_
  refine x_new C (ci := 0) (fs := [.null, .null, .null, .null, .null, .null, .null, .null, .null, .null, .null, .int 0, .int 0, .int 0, .int 0, .int 0, .int 0, .int 0]) inX2 tyX2 tyX2_ok wk_X5_7 wa_X2 wz_X2 hP hD hS hA rfl (fun j hj => by rcases (show j = 0 ∨ j = 1 ∨ j = 2 ∨ j = 3 ∨ j = 4 ∨ j = 5 ∨ j = 6 ∨ j = 7 ∨ j = 8 ∨ j = 9 ∨ j = 10 ∨ j = 11 ∨ j = 12 ∨ j = 13 ∨ j = 14 ∨ j = 15 ∨ j = 16 ∨ j = 17 by omega) with rfl | rfl | rfl | rfl | rfl | rfl | rfl | rfl | rfl | rfl | rfl | rfl | rfl | rfl | rfl | rfl | rfl | rfl <;> rfl) (Nat.le_of_ble_eq_true rfl) (Nat.le_of_ble_eq_true rfl) dX5_init_16 (fun q1 H hP hD hS => ?_)
  refine x_dup C dX5_init_19 rfl ?_
  refine x_callI (n := 0) (wr := [(rA, .inr (2, [.ref q0, .null, .null, .int 0]))] ++ (wS cI (ad0 q0 u0) initS)) (wc := [(q1, .inr (0, [.null, .null, .null, .null, .null, .null, .null, .null, .null, .null, .null, .int 0, .int 0, .int 0, .int 0, .int 0, .int 0, .int 0]))]) (As := []) C (kX2_init l D cI cS q1) hz hN wm_X5_9 wi_X2_init wz_X2 wc_X2_init (by decide +kernel) rfl hP hD hS hA hl.1 dX5_init_20 rfl (Nat.le_of_ble_eq_true rfl) ⟨Nat.le_of_ble_eq_true rfl, Nat.le_of_ble_eq_true rfl⟩ ⟨Nat.le_of_ble_eq_true rfl, Nat.le_of_ble_eq_true rfl⟩ (fun u1 H locs hP hD hS => ?_)
  refine x_putF C hnm (ws' := [(rA, .inr (2, [.ref q0, .ref q1, .null, .int 0]))] ++ (wS cI (ad0 q0 u0) initS ++ (wS cI (ad0 q1 u1) initS))) (ft := .object "RetryStorm$State") inX5 tyX5 tyX5_ok nmX5 hP hD hS 0 rfl rfl 1 (by decide) wf_X5_16 rfl rfl (by decide +kernel) rfl rfl (Nat.le_of_ble_eq_true rfl) rfl dX5_init_23 (fun H locs hP hD hS => ?_)
  refine x_aload_n C dX5_init_26 rfl hl 0 rfl ?_
  refine x_iconst (v := (4 : Int32)) C dX5_init_27 (by decide) ?_
  refine x_newS (N := 4) C hN wk_X5_7 hP hD hS hA (by decide) (by decide) (by decide) (Nat.le_of_ble_eq_true rfl) (Nat.le_of_ble_eq_true rfl) dX5_init_28 (fun qa H hP hD hS => ?_)
  refine x_putF C hnm (ws' := [(rA, .inr (2, [.ref q0, .ref q1, .ref qa, .int 0]))] ++ (wS cI (ad0 q0 u0) initS ++ (wS cI (ad0 q1 u1) initS ++ ([(qa, .inl (cS, 4, .inr (.inr (.inr (.inr (fun _ => none))))))])))) (ft := .array (.object "RetryStorm$State")) inX5 tyX5 tyX5_ok nmX5 hP hD hS 0 rfl rfl 2 (by decide) wf_X5_19 rfl rfl (by decide +kernel) rfl rfl (Nat.le_of_ble_eq_true rfl) rfl dX5_init_31 (fun H locs hP hD hS => ?_)
  refine x_iconst (v := (0 : Int32)) C dX5_init_34 (by decide) ?_
  refine x_istore_n (lv' := [(1, .int (0 : Int32)), (0, .ref rA)]) C dX5_init_35 rfl hl (by decide) rfl (fun ls hl => ?_)
  refine x_iload_n C dX5_init_36 rfl hl 0 rfl ?_
  refine x_aload_n C dX5_init_37 rfl hl 1 rfl ?_
  refine x_get C inX5 hP 0 rfl rfl 2 (by decide) wf_X5_19 rfl dX5_init_38 ?_
  refine x_alen C (v := (4 : Int32)) hP 47 rfl (t0 := 1) rfl rfl dX5_init_41 ?_
  refine x_icmpK_lt C (by decide) dX5_init_42 (tgt := 64) (by decide) ?_
  refine x_aload_n C dX5_init_45 rfl hl 1 rfl ?_
  refine x_get C inX5 hP 0 rfl rfl 2 (by decide) wf_X5_19 rfl dX5_init_46 ?_
  refine x_iload_n C dX5_init_49 rfl hl 0 rfl ?_
  refine x_new C (ci := 0) (fs := [.null, .null, .null, .null, .null, .null, .null, .null, .null, .null, .null, .int 0, .int 0, .int 0, .int 0, .int 0, .int 0, .int 0]) inX2 tyX2 tyX2_ok wk_X5_7 wa_X2 wz_X2 hP hD hS hA rfl (fun j hj => by rcases (show j = 0 ∨ j = 1 ∨ j = 2 ∨ j = 3 ∨ j = 4 ∨ j = 5 ∨ j = 6 ∨ j = 7 ∨ j = 8 ∨ j = 9 ∨ j = 10 ∨ j = 11 ∨ j = 12 ∨ j = 13 ∨ j = 14 ∨ j = 15 ∨ j = 16 ∨ j = 17 by omega) with rfl | rfl | rfl | rfl | rfl | rfl | rfl | rfl | rfl | rfl | rfl | rfl | rfl | rfl | rfl | rfl | rfl | rfl <;> rfl) (Nat.le_of_ble_eq_true rfl) (Nat.le_of_ble_eq_true rfl) dX5_init_50 (fun q2 H hP hD hS => ?_)
  refine x_dup C dX5_init_53 rfl ?_
  refine x_callI (n := 0) (wr := [(rA, .inr (2, [.ref q0, .ref q1, .ref qa, .int 0]))] ++ (wS cI (ad0 q0 u0) initS ++ (wS cI (ad0 q1 u1) initS ++ ([(qa, .inl (cS, 4, .inr (.inr (.inr (.inr (fun _ => none))))))])))) (wc := [(q2, .inr (0, [.null, .null, .null, .null, .null, .null, .null, .null, .null, .null, .null, .int 0, .int 0, .int 0, .int 0, .int 0, .int 0, .int 0]))]) (As := []) C (kX2_init l D cI cS q2) hz hN wm_X5_9 wi_X2_init wz_X2 wc_X2_init (by decide +kernel) rfl hP hD hS hA hl.1 dX5_init_54 rfl (Nat.le_of_ble_eq_true rfl) ⟨Nat.le_of_ble_eq_true rfl, Nat.le_of_ble_eq_true rfl⟩ ⟨Nat.le_of_ble_eq_true rfl, Nat.le_of_ble_eq_true rfl⟩ (fun u2 H locs hP hD hS => ?_)
  refine x_aast C (t0 := 1) (ws' := [(rA, .inr (2, [.ref q0, .ref q1, .ref qa, .int 0]))] ++ (wS cI (ad0 q0 u0) initS ++ (wS cI (ad0 q1 u1) initS ++ ([(qa, .inl (cS, 4, .inr (.inr (.inr (.inr (va_up (fun _ => none) 0 (some q2)))))))] ++ (wS cI (ad0 q2 u2) initS))))) (by decide) hP hD hS 47 48 0 rfl rfl rfl rfl rfl dX5_init_57 (fun H locs hP hD hS => ?_)
  refine x_iinc (v := (1 : Int32)) (lv' := [(1, .int (1 : Int32)), (0, .ref rA)]) C dX5_init_58 hl (k := 0) rfl (by decide) (by decide) rfl (fun ls hl => ?_)
  refine x_goto (tgt := 36) C dX5_init_61 (by decide) ?_
  refine x_iload_n C dX5_init_36 rfl hl 0 rfl ?_
  refine x_aload_n C dX5_init_37 rfl hl 1 rfl ?_
  refine x_get C inX5 hP 0 rfl rfl 2 (by decide) wf_X5_19 rfl dX5_init_38 ?_
  refine x_alen C (v := (4 : Int32)) hP 47 rfl (t0 := 1) rfl rfl dX5_init_41 ?_
  refine x_icmpK_lt C (by decide) dX5_init_42 (tgt := 64) (by decide) ?_
  refine x_aload_n C dX5_init_45 rfl hl 1 rfl ?_
  refine x_get C inX5 hP 0 rfl rfl 2 (by decide) wf_X5_19 rfl dX5_init_46 ?_
  refine x_iload_n C dX5_init_49 rfl hl 0 rfl ?_
  refine x_new C (ci := 0) (fs := [.null, .null, .null, .null, .null, .null, .null, .null, .null, .null, .null, .int 0, .int 0, .int 0, .int 0, .int 0, .int 0, .int 0]) inX2 tyX2 tyX2_ok wk_X5_7 wa_X2 wz_X2 hP hD hS hA rfl (fun j hj => by rcases (show j = 0 ∨ j = 1 ∨ j = 2 ∨ j = 3 ∨ j = 4 ∨ j = 5 ∨ j = 6 ∨ j = 7 ∨ j = 8 ∨ j = 9 ∨ j = 10 ∨ j = 11 ∨ j = 12 ∨ j = 13 ∨ j = 14 ∨ j = 15 ∨ j = 16 ∨ j = 17 by omega) with rfl | rfl | rfl | rfl | rfl | rfl | rfl | rfl | rfl | rfl | rfl | rfl | rfl | rfl | rfl | rfl | rfl | rfl <;> rfl) (Nat.le_of_ble_eq_true rfl) (Nat.le_of_ble_eq_true rfl) dX5_init_50 (fun q3 H hP hD hS => ?_)
  refine x_dup C dX5_init_53 rfl ?_
  refine x_callI (n := 0) (wr := [(rA, .inr (2, [.ref q0, .ref q1, .ref qa, .int 0]))] ++ (wS cI (ad0 q0 u0) initS ++ (wS cI (ad0 q1 u1) initS ++ ([(qa, .inl (cS, 4, .inr (.inr (.inr (.inr (va_up (fun _ => none) 0 (some q2)))))))] ++ (wS cI (ad0 q2 u2) initS))))) (wc := [(q3, .inr (0, [.null, .null, .null, .null, .null, .null, .null, .null, .null, .null, .null, .int 0, .int 0, .int 0, .int 0, .int 0, .int 0, .int 0]))]) (As := []) C (kX2_init l D cI cS q3) hz hN wm_X5_9 wi_X2_init wz_X2 wc_X2_init (by decide +kernel) rfl hP hD hS hA hl.1 dX5_init_54 rfl (Nat.le_of_ble_eq_true rfl) ⟨Nat.le_of_ble_eq_true rfl, Nat.le_of_ble_eq_true rfl⟩ ⟨Nat.le_of_ble_eq_true rfl, Nat.le_of_ble_eq_true rfl⟩ (fun u3 H locs hP hD hS => ?_)
  refine x_aast C (t0 := 1) (ws' := [(rA, .inr (2, [.ref q0, .ref q1, .ref qa, .int 0]))] ++ (wS cI (ad0 q0 u0) initS ++ (wS cI (ad0 q1 u1) initS ++ ([(qa, .inl (cS, 4, .inr (.inr (.inr (.inr (va_up (va_up (fun _ => none) 0 (some q2)) 1 (some q3)))))))] ++ (wS cI (ad0 q2 u2) initS ++ (wS cI (ad0 q3 u3) initS)))))) (by decide) hP hD hS 47 71 0 rfl rfl rfl rfl rfl dX5_init_57 (fun H locs hP hD hS => ?_)
  refine x_iinc (v := (2 : Int32)) (lv' := [(1, .int (2 : Int32)), (0, .ref rA)]) C dX5_init_58 hl (k := 0) rfl (by decide) (by decide) rfl (fun ls hl => ?_)
  refine x_goto (tgt := 36) C dX5_init_61 (by decide) ?_
  refine x_iload_n C dX5_init_36 rfl hl 0 rfl ?_
  refine x_aload_n C dX5_init_37 rfl hl 1 rfl ?_
  refine x_get C inX5 hP 0 rfl rfl 2 (by decide) wf_X5_19 rfl dX5_init_38 ?_
  refine x_alen C (v := (4 : Int32)) hP 47 rfl (t0 := 1) rfl rfl dX5_init_41 ?_
  refine x_icmpK_lt C (by decide) dX5_init_42 (tgt := 64) (by decide) ?_
  refine x_aload_n C dX5_init_45 rfl hl 1 rfl ?_
  refine x_get C inX5 hP 0 rfl rfl 2 (by decide) wf_X5_19 rfl dX5_init_46 ?_
  refine x_iload_n C dX5_init_49 rfl hl 0 rfl ?_
  refine x_new C (ci := 0) (fs := [.null, .null, .null, .null, .null, .null, .null, .null, .null, .null, .null, .int 0, .int 0, .int 0, .int 0, .int 0, .int 0, .int 0]) inX2 tyX2 tyX2_ok wk_X5_7 wa_X2 wz_X2 hP hD hS hA rfl (fun j hj => by rcases (show j = 0 ∨ j = 1 ∨ j = 2 ∨ j = 3 ∨ j = 4 ∨ j = 5 ∨ j = 6 ∨ j = 7 ∨ j = 8 ∨ j = 9 ∨ j = 10 ∨ j = 11 ∨ j = 12 ∨ j = 13 ∨ j = 14 ∨ j = 15 ∨ j = 16 ∨ j = 17 by omega) with rfl | rfl | rfl | rfl | rfl | rfl | rfl | rfl | rfl | rfl | rfl | rfl | rfl | rfl | rfl | rfl | rfl | rfl <;> rfl) (Nat.le_of_ble_eq_true rfl) (Nat.le_of_ble_eq_true rfl) dX5_init_50 (fun q4 H hP hD hS => ?_)
  refine x_dup C dX5_init_53 rfl ?_
  refine x_callI (n := 0) (wr := [(rA, .inr (2, [.ref q0, .ref q1, .ref qa, .int 0]))] ++ (wS cI (ad0 q0 u0) initS ++ (wS cI (ad0 q1 u1) initS ++ ([(qa, .inl (cS, 4, .inr (.inr (.inr (.inr (va_up (va_up (fun _ => none) 0 (some q2)) 1 (some q3)))))))] ++ (wS cI (ad0 q2 u2) initS ++ (wS cI (ad0 q3 u3) initS)))))) (wc := [(q4, .inr (0, [.null, .null, .null, .null, .null, .null, .null, .null, .null, .null, .null, .int 0, .int 0, .int 0, .int 0, .int 0, .int 0, .int 0]))]) (As := []) C (kX2_init l D cI cS q4) hz hN wm_X5_9 wi_X2_init wz_X2 wc_X2_init (by decide +kernel) rfl hP hD hS hA hl.1 dX5_init_54 rfl (Nat.le_of_ble_eq_true rfl) ⟨Nat.le_of_ble_eq_true rfl, Nat.le_of_ble_eq_true rfl⟩ ⟨Nat.le_of_ble_eq_true rfl, Nat.le_of_ble_eq_true rfl⟩ (fun u4 H locs hP hD hS => ?_)
  refine x_aast C (t0 := 1) (ws' := [(rA, .inr (2, [.ref q0, .ref q1, .ref qa, .int 0]))] ++ (wS cI (ad0 q0 u0) initS ++ (wS cI (ad0 q1 u1) initS ++ ([(qa, .inl (cS, 4, .inr (.inr (.inr (.inr (va_up (va_up (va_up (fun _ => none) 0 (some q2)) 1 (some q3)) 2 (some q4)))))))] ++ (wS cI (ad0 q2 u2) initS ++ (wS cI (ad0 q3 u3) initS ++ (wS cI (ad0 q4 u4) initS))))))) (by decide) hP hD hS 47 94 0 rfl rfl rfl rfl rfl dX5_init_57 (fun H locs hP hD hS => ?_)
  refine x_iinc (v := (3 : Int32)) (lv' := [(1, .int (3 : Int32)), (0, .ref rA)]) C dX5_init_58 hl (k := 0) rfl (by decide) (by decide) rfl (fun ls hl => ?_)
  refine x_goto (tgt := 36) C dX5_init_61 (by decide) ?_
  refine x_iload_n C dX5_init_36 rfl hl 0 rfl ?_
  refine x_aload_n C dX5_init_37 rfl hl 1 rfl ?_
  refine x_get C inX5 hP 0 rfl rfl 2 (by decide) wf_X5_19 rfl dX5_init_38 ?_
  refine x_alen C (v := (4 : Int32)) hP 47 rfl (t0 := 1) rfl rfl dX5_init_41 ?_
  refine x_icmpK_lt C (by decide) dX5_init_42 (tgt := 64) (by decide) ?_
  refine x_aload_n C dX5_init_45 rfl hl 1 rfl ?_
  refine x_get C inX5 hP 0 rfl rfl 2 (by decide) wf_X5_19 rfl dX5_init_46 ?_
  refine x_iload_n C dX5_init_49 rfl hl 0 rfl ?_
  refine x_new C (ci := 0) (fs := [.null, .null, .null, .null, .null, .null, .null, .null, .null, .null, .null, .int 0, .int 0, .int 0, .int 0, .int 0, .int 0, .int 0]) inX2 tyX2 tyX2_ok wk_X5_7 wa_X2 wz_X2 hP hD hS hA rfl (fun j hj => by rcases (show j = 0 ∨ j = 1 ∨ j = 2 ∨ j = 3 ∨ j = 4 ∨ j = 5 ∨ j = 6 ∨ j = 7 ∨ j = 8 ∨ j = 9 ∨ j = 10 ∨ j = 11 ∨ j = 12 ∨ j = 13 ∨ j = 14 ∨ j = 15 ∨ j = 16 ∨ j = 17 by omega) with rfl | rfl | rfl | rfl | rfl | rfl | rfl | rfl | rfl | rfl | rfl | rfl | rfl | rfl | rfl | rfl | rfl | rfl <;> rfl) (Nat.le_of_ble_eq_true rfl) (Nat.le_of_ble_eq_true rfl) dX5_init_50 (fun q5 H hP hD hS => ?_)
  refine x_dup C dX5_init_53 rfl ?_
  refine x_callI (n := 0) (wr := [(rA, .inr (2, [.ref q0, .ref q1, .ref qa, .int 0]))] ++ (wS cI (ad0 q0 u0) initS ++ (wS cI (ad0 q1 u1) initS ++ ([(qa, .inl (cS, 4, .inr (.inr (.inr (.inr (va_up (va_up (va_up (fun _ => none) 0 (some q2)) 1 (some q3)) 2 (some q4)))))))] ++ (wS cI (ad0 q2 u2) initS ++ (wS cI (ad0 q3 u3) initS ++ (wS cI (ad0 q4 u4) initS))))))) (wc := [(q5, .inr (0, [.null, .null, .null, .null, .null, .null, .null, .null, .null, .null, .null, .int 0, .int 0, .int 0, .int 0, .int 0, .int 0, .int 0]))]) (As := []) C (kX2_init l D cI cS q5) hz hN wm_X5_9 wi_X2_init wz_X2 wc_X2_init (by decide +kernel) rfl hP hD hS hA hl.1 dX5_init_54 rfl (Nat.le_of_ble_eq_true rfl) ⟨Nat.le_of_ble_eq_true rfl, Nat.le_of_ble_eq_true rfl⟩ ⟨Nat.le_of_ble_eq_true rfl, Nat.le_of_ble_eq_true rfl⟩ (fun u5 H locs hP hD hS => ?_)
  refine x_aast C (t0 := 1) (ws' := [(rA, .inr (2, [.ref q0, .ref q1, .ref qa, .int 0]))] ++ (wS cI (ad0 q0 u0) initS ++ (wS cI (ad0 q1 u1) initS ++ ([(qa, .inl (cS, 4, .inr (.inr (.inr (.inr (va_up (va_up (va_up (va_up (fun _ => none) 0 (some q2)) 1 (some q3)) 2 (some q4)) 3 (some q5)))))))] ++ (wS cI (ad0 q2 u2) initS ++ (wS cI (ad0 q3 u3) initS ++ (wS cI (ad0 q4 u4) initS ++ (wS cI (ad0 q5 u5) initS)))))))) (by decide) hP hD hS 47 117 0 rfl rfl rfl rfl rfl dX5_init_57 (fun H locs hP hD hS => ?_)
  refine x_iinc (v := (4 : Int32)) (lv' := [(1, .int (4 : Int32)), (0, .ref rA)]) C dX5_init_58 hl (k := 0) rfl (by decide) (by decide) rfl (fun ls hl => ?_)
  refine x_goto (tgt := 36) C dX5_init_61 (by decide) ?_
  refine x_iload_n C dX5_init_36 rfl hl 0 rfl ?_
  refine x_aload_n C dX5_init_37 rfl hl 1 rfl ?_
  refine x_get C inX5 hP 0 rfl rfl 2 (by decide) wf_X5_19 rfl dX5_init_38 ?_
  refine x_alen C (v := (4 : Int32)) hP 47 rfl (t0 := 1) rfl rfl dX5_init_41 ?_
  refine x_icmpK_ge C (by decide) dX5_init_42 (tgt := 64) (by decide) ?_
  refine W.widen (k := 139) (n := 4444) (Nat.le_of_ble_eq_true rfl) (Nat.le_of_ble_eq_true rfl) ?_
  have hw := born_perm (D := D) (cS := cS) (cI := cI) (rA := rA) (qa := qa) (A := A) (B := fun i => ([ad0 q0 u0, ad0 q1 u1, ad0 q2 u2, ad0 q3 u3, ad0 q4 u4, ad0 q5 u5].getD i (fun _ => 0))) (g := (va_up (va_up (va_up (va_up (fun _ => none) 0 (some q2)) 1 (some q3)) 2 (some q4)) 3 (some q5))) (H := H) (fun j hj => by match j, hj with | 0, _ => rfl | 1, _ => rfl | 2, _ => rfl | 3, _ => rfl | j + 4, h => exact absurd h (by omega)) hP hD
  exact RET (qa, fun i => ([ad0 q0 u0, ad0 q1 u1, ad0 q2 u2, ad0 q3 u3, ad0 q4 u4, ad0 q5 u5].getD i (fun _ => 0))) dX5_init_64 hw.1 hw.2 hS
