/-! static tables, rows of references -/
section XS
variable {p : Program} {l : Launch} {e : Env} {R : Room} {s : State} {m : MethodId} {args : Array Value} {below : List Frame} {meth : Method} {c : Code} {H : Heap} {locs : List Loc} {cells slots : Nat} {Q : State → Prop} {own : String} {cc : ByteArray} {nL : Nat} {ret : Option FieldType} {D : va_G} {ty : List (ClassId × FieldType)} {pc index : Nat} {ls : Array Slot} {rest : List Value} {A : Nat → Prop} {H0 : Heap} {ws : va_W} {ρ : Type} {X Y : Option ρ} {q : ρ}
theorem x_gets (C : Cx p s m args meth c own cc nL ret D ty) {n : String} {a : Nat} (hZ : va_Z "RetryStorm" n "[I" (.ref a) A s s.heap) (hS : va_S A s.heap H locs) (hw : Cond.fieldLink own index "RetryStorm" n "[I" ∈ WS) (hdg : decode cc pc = .ok (.getstatic index, 3))
    (kk : W p l e R s m args below meth c H locs cells slots Q (F0 m (pc + 3) ls (.ref a :: rest))) : W p l e R s m args below meth c H locs cells slots Q (F0 m pc ls rest) :=
  va_gets C.1 C.2.1 hZ hS C.2.2.2.1 (C.2.2.2.2.1 _ hw) (fun _ h => h) hdg kk
theorem x_taldK (C : Cx p s m args meth c own cc nL ret D ty) {t : List Int32} {a : Nat} (hT : va_T .int a 12 (tabF t) A s s.heap) (hS : va_S A s.heap H locs) {i : Int32} (hin : okI i 12) (hdg : decode cc pc = .ok (.iaload, 1))
    (kk : W p l e R s m args below meth c H locs cells slots Q (F0 m (pc + 1) ls (.int (tabI t i.toNatClampNeg) :: rest))) : W p l e R s m args below meth c H locs cells slots Q (F0 m pc ls (.int i :: .ref a :: rest)) :=
  va_ti C.1 C.2.1 hT hS hin (v := .int (tabI t i.toNatClampNeg)) rfl hdg kk
theorem x_tald (C : Cx p s m args meth c own cc nL ret D ty) {t : List Int32} {a : Nat} (hT : va_T .int a 12 (tabF t) A s s.heap) (hS : va_S A s.heap H locs) {i : Int32} (h : (if okI i 12 then X else none) = some q) (hdg : decode cc pc = .ok (.iaload, 1))
    (kk : X = some q → W p l e R s m args below meth c H locs cells slots Q (F0 m (pc + 1) ls (.int (tabI t i.toNatClampNeg) :: rest))) : W p l e R s m args below meth c H locs cells slots Q (F0 m pc ls (.int i :: .ref a :: rest)) := by
  obtain ⟨hc, h⟩ := x_ifn h
  exact x_taldK C hT hS hc hdg (kk h)
theorem x_aald (C : Cx p s m args meth c own cc nL ret D ty) {a t0 v : Nat} {cA : ClassId} {n : Nat} {g : Nat → Option Nat} {i : Int32} {Cn : String} (hin : okI i n) (hP : va_P D vwCl ws H) (q0 : Nat) (ha : ws[q0]? = some (a, .inl (cA, n, .inr (.inr (.inr (.inr g)))))) (ht : ty[t0]? = some (cA, .object Cn)) (hv : g i.toNatClampNeg = some v) (hdg : decode cc pc = .ok (.aaload, 1))
    (kk : W p l e R s m args below meth c H locs cells slots Q (F0 m (pc + 1) ls (.ref v :: rest))) : W p l e R s m args below meth c H locs cells slots Q (F0 m pc ls (.int i :: .ref a :: rest)) := by
  refine va_aldq C.1 C.2.1 C.2.2.2.2.2.1 hP q0 t0 ha ht hin hdg ?_
  rw [hv]
  exact kk
theorem x_aast (C : Cx p s m args meth c own cc nL ret D ty) {a t0 v n : Nat} {cA : ClassId} {r : vw_C} {vs : List Value} {g : Nat → Option Nat} {i : Int32} {ws' : va_W} (hin : okI i n) (hP : va_P D vwCl ws H) (hD : va_D A ws) (hS : va_S A H0 H locs) (q0 qk ci : Nat) (ha : ws[q0]? = some (a, .inl (cA, n, .inr (.inr (.inr (.inr g)))))) (ht : ty[t0]? = some (cA, .object r.1)) (hv : ws[qk]? = some (v, .inr (ci, vs))) (hc : vwCl[ci]? = some r) (hset : ws.set q0 (a, .inl (cA, n, .inr (.inr (.inr (.inr (va_up g i.toNatClampNeg (some v))))))) = ws') (hdg : decode cc pc = .ok (.aastore, 1))
    (kk : ∀ (H1 : Heap) (locs1 : List Loc), va_P D vwCl ws' H1 → va_D A ws' → va_S A H0 H1 locs1 → W p l e R s m args below meth c H1 locs1 cells slots Q (F0 m (pc + 1) ls rest)) : W p l e R s m args below meth c H locs cells slots Q (F0 m pc ls (.ref v :: .int i :: .ref a :: rest)) := by
  subst hset
  exact va_astq C.1 C.2.1 C.2.2.2.2.2.1 hP hD hS q0 t0 qk ci ha ht hv hc hin hdg kk
theorem x_ifnull (C : Cx p s m args meth c own cc nL ret D ty) {x : Nat} {off : Int} (hdg : decode cc pc = .ok (.ifnull off, 3)) (kk : W p l e R s m args below meth c H locs cells slots Q (F0 m (pc + 3) ls rest)) : W p l e R s m args below meth c H locs cells slots Q (F0 m pc ls (.ref x :: rest)) := lv_ifnull C.1 C.2.1 hdg kk
theorem x_icmpK_lt (C : Cx p s m args meth c own cc nL ret D ty) {x y : Int32} {off : Int} (hc : ¬ y ≤ x) (hdg : decode cc pc = .ok (.if_icmp .ge off, 3)) {tgt : Nat} (ht : (pc : Int) + off = (tgt : Int)) (kk : W p l e R s m args below meth c H locs cells slots Q (F0 m (pc + 3) ls rest)) : W p l e R s m args below meth c H locs cells slots Q (F0 m pc ls (.int y :: .int x :: rest)) := lv_icmp_ge C.1 C.2.1 hdg ht (fun h => absurd h hc) (fun _ => kk)
theorem x_icmpK_ge (C : Cx p s m args meth c own cc nL ret D ty) {x y : Int32} {off : Int} (hc : y ≤ x) (hdg : decode cc pc = .ok (.if_icmp .ge off, 3)) {tgt : Nat} (ht : (pc : Int) + off = (tgt : Int)) (kk : W p l e R s m args below meth c H locs cells slots Q (F0 m tgt ls rest)) : W p l e R s m args below meth c H locs cells slots Q (F0 m pc ls (.int y :: .int x :: rest)) := lv_icmp_ge C.1 C.2.1 hdg ht (fun _ => kk) (fun h => absurd hc h)
end XS

theorem dX5_dropOldestRecord_0 : decode cX5_dropOldestRecord 0 = .ok (.aload_n 0, 1) := by decide +kernel
theorem dX5_dropOldestRecord_1 : decode cX5_dropOldestRecord 1 = .ok (.getfield 19, 3) := by decide +kernel
theorem dX5_dropOldestRecord_4 : decode cX5_dropOldestRecord 4 = .ok (.iconst 0, 1) := by decide +kernel
theorem dX5_dropOldestRecord_5 : decode cX5_dropOldestRecord 5 = .ok (.aaload, 1) := by decide +kernel
theorem dX5_dropOldestRecord_6 : decode cX5_dropOldestRecord 6 = .ok (.astore_n 1, 1) := by decide +kernel
theorem dX5_dropOldestRecord_7 : decode cX5_dropOldestRecord 7 = .ok (.iconst 1, 1) := by decide +kernel
theorem dX5_dropOldestRecord_8 : decode cX5_dropOldestRecord 8 = .ok (.istore_n 2, 1) := by decide +kernel
theorem dX5_dropOldestRecord_9 : decode cX5_dropOldestRecord 9 = .ok (.iload_n 2, 1) := by decide +kernel
theorem dX5_dropOldestRecord_10 : decode cX5_dropOldestRecord 10 = .ok (.aload_n 0, 1) := by decide +kernel
theorem dX5_dropOldestRecord_11 : decode cX5_dropOldestRecord 11 = .ok (.getfield 19, 3) := by decide +kernel
theorem dX5_dropOldestRecord_14 : decode cX5_dropOldestRecord 14 = .ok (.arraylength, 1) := by decide +kernel
theorem dX5_dropOldestRecord_15 : decode cX5_dropOldestRecord 15 = .ok (.if_icmp .ge 23, 3) := by decide +kernel
theorem dX5_dropOldestRecord_18 : decode cX5_dropOldestRecord 18 = .ok (.aload_n 0, 1) := by decide +kernel
theorem dX5_dropOldestRecord_19 : decode cX5_dropOldestRecord 19 = .ok (.getfield 19, 3) := by decide +kernel
theorem dX5_dropOldestRecord_22 : decode cX5_dropOldestRecord 22 = .ok (.iload_n 2, 1) := by decide +kernel
theorem dX5_dropOldestRecord_23 : decode cX5_dropOldestRecord 23 = .ok (.iconst 1, 1) := by decide +kernel
theorem dX5_dropOldestRecord_24 : decode cX5_dropOldestRecord 24 = .ok (.isub, 1) := by decide +kernel
theorem dX5_dropOldestRecord_25 : decode cX5_dropOldestRecord 25 = .ok (.aload_n 0, 1) := by decide +kernel
theorem dX5_dropOldestRecord_26 : decode cX5_dropOldestRecord 26 = .ok (.getfield 19, 3) := by decide +kernel
theorem dX5_dropOldestRecord_29 : decode cX5_dropOldestRecord 29 = .ok (.iload_n 2, 1) := by decide +kernel
theorem dX5_dropOldestRecord_30 : decode cX5_dropOldestRecord 30 = .ok (.aaload, 1) := by decide +kernel
theorem dX5_dropOldestRecord_31 : decode cX5_dropOldestRecord 31 = .ok (.aastore, 1) := by decide +kernel
theorem dX5_dropOldestRecord_32 : decode cX5_dropOldestRecord 32 = .ok (.iinc 2 1, 3) := by decide +kernel
theorem dX5_dropOldestRecord_35 : decode cX5_dropOldestRecord 35 = .ok (.goto (-26), 3) := by decide +kernel
theorem dX5_dropOldestRecord_38 : decode cX5_dropOldestRecord 38 = .ok (.aload_n 0, 1) := by decide +kernel
theorem dX5_dropOldestRecord_39 : decode cX5_dropOldestRecord 39 = .ok (.getfield 19, 3) := by decide +kernel
theorem dX5_dropOldestRecord_42 : decode cX5_dropOldestRecord 42 = .ok (.aload_n 0, 1) := by decide +kernel
theorem dX5_dropOldestRecord_43 : decode cX5_dropOldestRecord 43 = .ok (.getfield 19, 3) := by decide +kernel
theorem dX5_dropOldestRecord_46 : decode cX5_dropOldestRecord 46 = .ok (.arraylength, 1) := by decide +kernel
theorem dX5_dropOldestRecord_47 : decode cX5_dropOldestRecord 47 = .ok (.iconst 1, 1) := by decide +kernel
theorem dX5_dropOldestRecord_48 : decode cX5_dropOldestRecord 48 = .ok (.isub, 1) := by decide +kernel
theorem dX5_dropOldestRecord_49 : decode cX5_dropOldestRecord 49 = .ok (.aload_n 1, 1) := by decide +kernel
theorem dX5_dropOldestRecord_50 : decode cX5_dropOldestRecord 50 = .ok (.aastore, 1) := by decide +kernel
theorem dX5_dropOldestRecord_51 : decode cX5_dropOldestRecord 51 = .ok (.aload_n 0, 1) := by decide +kernel
theorem dX5_dropOldestRecord_52 : decode cX5_dropOldestRecord 52 = .ok (.dup, 1) := by decide +kernel
theorem dX5_dropOldestRecord_53 : decode cX5_dropOldestRecord 53 = .ok (.getfield 124, 3) := by decide +kernel
theorem dX5_dropOldestRecord_56 : decode cX5_dropOldestRecord 56 = .ok (.iconst 1, 1) := by decide +kernel
theorem dX5_dropOldestRecord_57 : decode cX5_dropOldestRecord 57 = .ok (.isub, 1) := by decide +kernel
theorem dX5_dropOldestRecord_58 : decode cX5_dropOldestRecord 58 = .ok (.putfield 124, 3) := by decide +kernel
theorem dX5_dropOldestRecord_61 : decode cX5_dropOldestRecord 61 = .ok (.return_, 1) := by decide +kernel
set_option maxHeartbeats 4000000 in
set_option maxRecDepth 100000 in
theorem kX5_drop_raw (l : Launch) (D : va_G) (cI cS : ClassId) (aR : Nat → Nat) (X : RS) : Mc l D (tyL cI cS) false yX5_dropOldestRecord cX5_dropOldestRecord 3 none 1 [.ref (aR 0)] (wRg cI cS aR X (recG X) X.2.2) none (wRg cI cS aR X (va_up (va_up (va_up (va_up (recG X) 0 (some (X.1 3 0))) 1 (some (X.1 4 0))) 2 (some (X.1 5 0))) 3 (some (X.1 2 0))) (X.2.2 - 1)) := by
  refine Mc_of RX5 (by decide +kernel) rfl wc_X5_dropOldestRecord (Nat.le_of_ble_eq_true rfl) ?_
  intro p e s m args below meth c A Q ls C hA hz hP hD hS hl RET
  refine x_aload_n C dX5_dropOldestRecord_0 rfl hl 0 rfl ?_
  refine x_get C inX5 hP 0 rfl rfl 2 (by decide) wf_X5_19 rfl dX5_dropOldestRecord_1 ?_
  refine x_iconst (v := (0 : Int32)) C dX5_dropOldestRecord_4 (by decide) ?_
  refine x_aald C (t0 := 1) (v := X.1 2 0) (Cn := "RetryStorm$State") (by decide) hP 1 rfl rfl rfl dX5_dropOldestRecord_5 ?_
  refine x_astore_n (lv' := [(1, .ref (X.1 2 0)), (0, .ref (aR 0))]) C dX5_dropOldestRecord_6 rfl hl (by decide) rfl (fun ls hl => ?_)
  refine x_iconst (v := (1 : Int32)) C dX5_dropOldestRecord_7 (by decide) ?_
  refine x_istore_n (lv' := [(2, .int (1 : Int32)), (1, .ref (X.1 2 0)), (0, .ref (aR 0))]) C dX5_dropOldestRecord_8 rfl hl (by decide) rfl (fun ls hl => ?_)
  refine x_iload_n C dX5_dropOldestRecord_9 rfl hl 0 rfl ?_
  refine x_aload_n C dX5_dropOldestRecord_10 rfl hl 2 rfl ?_
  refine x_get C inX5 hP 0 rfl rfl 2 (by decide) wf_X5_19 rfl dX5_dropOldestRecord_11 ?_
  refine x_alen C (v := (4 : Int32)) hP 1 rfl (t0 := 1) rfl rfl dX5_dropOldestRecord_14 ?_
  refine x_icmpK_lt C (by decide) dX5_dropOldestRecord_15 (tgt := 38) (by decide) ?_
  refine x_aload_n C dX5_dropOldestRecord_18 rfl hl 2 rfl ?_
  refine x_get C inX5 hP 0 rfl rfl 2 (by decide) wf_X5_19 rfl dX5_dropOldestRecord_19 ?_
  refine x_iload_n C dX5_dropOldestRecord_22 rfl hl 0 rfl ?_
  refine x_iconst (v := (1 : Int32)) C dX5_dropOldestRecord_23 (by decide) ?_
  refine x_isub C dX5_dropOldestRecord_24 ?_
  refine x_aload_n C dX5_dropOldestRecord_25 rfl hl 2 rfl ?_
  refine x_get C inX5 hP 0 rfl rfl 2 (by decide) wf_X5_19 rfl dX5_dropOldestRecord_26 ?_
  refine x_iload_n C dX5_dropOldestRecord_29 rfl hl 0 rfl ?_
  refine x_aald C (t0 := 1) (v := X.1 3 0) (Cn := "RetryStorm$State") (by decide) hP 1 rfl rfl rfl dX5_dropOldestRecord_30 ?_
  refine x_aast C (t0 := 1) (ws' := wRg cI cS aR X (va_up (recG X) 0 (some (X.1 3 0))) X.2.2) (by decide) hP hD hS 1 71 0 rfl rfl rfl rfl rfl dX5_dropOldestRecord_31 (fun H locs hP hD hS => ?_)
  refine x_iinc (v := (2 : Int32)) (lv' := [(2, .int (2 : Int32)), (1, .ref (X.1 2 0)), (0, .ref (aR 0))]) C dX5_dropOldestRecord_32 hl (k := 0) rfl (by decide) (by decide) rfl (fun ls hl => ?_)
  refine x_goto (tgt := 9) C dX5_dropOldestRecord_35 (by decide) ?_
  refine x_iload_n C dX5_dropOldestRecord_9 rfl hl 0 rfl ?_
  refine x_aload_n C dX5_dropOldestRecord_10 rfl hl 2 rfl ?_
  refine x_get C inX5 hP 0 rfl rfl 2 (by decide) wf_X5_19 rfl dX5_dropOldestRecord_11 ?_
  refine x_alen C (v := (4 : Int32)) hP 1 rfl (t0 := 1) rfl rfl dX5_dropOldestRecord_14 ?_
  refine x_icmpK_lt C (by decide) dX5_dropOldestRecord_15 (tgt := 38) (by decide) ?_
  refine x_aload_n C dX5_dropOldestRecord_18 rfl hl 2 rfl ?_
  refine x_get C inX5 hP 0 rfl rfl 2 (by decide) wf_X5_19 rfl dX5_dropOldestRecord_19 ?_
  refine x_iload_n C dX5_dropOldestRecord_22 rfl hl 0 rfl ?_
  refine x_iconst (v := (1 : Int32)) C dX5_dropOldestRecord_23 (by decide) ?_
  refine x_isub C dX5_dropOldestRecord_24 ?_
  refine x_aload_n C dX5_dropOldestRecord_25 rfl hl 2 rfl ?_
  refine x_get C inX5 hP 0 rfl rfl 2 (by decide) wf_X5_19 rfl dX5_dropOldestRecord_26 ?_
  refine x_iload_n C dX5_dropOldestRecord_29 rfl hl 0 rfl ?_
  refine x_aald C (t0 := 1) (v := X.1 4 0) (Cn := "RetryStorm$State") (by decide) hP 1 rfl rfl rfl dX5_dropOldestRecord_30 ?_
  refine x_aast C (t0 := 1) (ws' := wRg cI cS aR X (va_up (va_up (recG X) 0 (some (X.1 3 0))) 1 (some (X.1 4 0))) X.2.2) (by decide) hP hD hS 1 94 0 rfl rfl rfl rfl rfl dX5_dropOldestRecord_31 (fun H locs hP hD hS => ?_)
  refine x_iinc (v := (3 : Int32)) (lv' := [(2, .int (3 : Int32)), (1, .ref (X.1 2 0)), (0, .ref (aR 0))]) C dX5_dropOldestRecord_32 hl (k := 0) rfl (by decide) (by decide) rfl (fun ls hl => ?_)
  refine x_goto (tgt := 9) C dX5_dropOldestRecord_35 (by decide) ?_
  refine x_iload_n C dX5_dropOldestRecord_9 rfl hl 0 rfl ?_
  refine x_aload_n C dX5_dropOldestRecord_10 rfl hl 2 rfl ?_
  refine x_get C inX5 hP 0 rfl rfl 2 (by decide) wf_X5_19 rfl dX5_dropOldestRecord_11 ?_
  refine x_alen C (v := (4 : Int32)) hP 1 rfl (t0 := 1) rfl rfl dX5_dropOldestRecord_14 ?_
  refine x_icmpK_lt C (by decide) dX5_dropOldestRecord_15 (tgt := 38) (by decide) ?_
  refine x_aload_n C dX5_dropOldestRecord_18 rfl hl 2 rfl ?_
  refine x_get C inX5 hP 0 rfl rfl 2 (by decide) wf_X5_19 rfl dX5_dropOldestRecord_19 ?_
  refine x_iload_n C dX5_dropOldestRecord_22 rfl hl 0 rfl ?_
  refine x_iconst (v := (1 : Int32)) C dX5_dropOldestRecord_23 (by decide) ?_
  refine x_isub C dX5_dropOldestRecord_24 ?_
  refine x_aload_n C dX5_dropOldestRecord_25 rfl hl 2 rfl ?_
  refine x_get C inX5 hP 0 rfl rfl 2 (by decide) wf_X5_19 rfl dX5_dropOldestRecord_26 ?_
  refine x_iload_n C dX5_dropOldestRecord_29 rfl hl 0 rfl ?_
  refine x_aald C (t0 := 1) (v := X.1 5 0) (Cn := "RetryStorm$State") (by decide) hP 1 rfl rfl rfl dX5_dropOldestRecord_30 ?_
  refine x_aast C (t0 := 1) (ws' := wRg cI cS aR X (va_up (va_up (va_up (recG X) 0 (some (X.1 3 0))) 1 (some (X.1 4 0))) 2 (some (X.1 5 0))) X.2.2) (by decide) hP hD hS 1 117 0 rfl rfl rfl rfl rfl dX5_dropOldestRecord_31 (fun H locs hP hD hS => ?_)
  refine x_iinc (v := (4 : Int32)) (lv' := [(2, .int (4 : Int32)), (1, .ref (X.1 2 0)), (0, .ref (aR 0))]) C dX5_dropOldestRecord_32 hl (k := 0) rfl (by decide) (by decide) rfl (fun ls hl => ?_)
  refine x_goto (tgt := 9) C dX5_dropOldestRecord_35 (by decide) ?_
  refine x_iload_n C dX5_dropOldestRecord_9 rfl hl 0 rfl ?_
  refine x_aload_n C dX5_dropOldestRecord_10 rfl hl 2 rfl ?_
  refine x_get C inX5 hP 0 rfl rfl 2 (by decide) wf_X5_19 rfl dX5_dropOldestRecord_11 ?_
  refine x_alen C (v := (4 : Int32)) hP 1 rfl (t0 := 1) rfl rfl dX5_dropOldestRecord_14 ?_
  refine x_icmpK_ge C (by decide) dX5_dropOldestRecord_15 (tgt := 38) (by decide) ?_
  refine x_aload_n C dX5_dropOldestRecord_38 rfl hl 2 rfl ?_
  refine x_get C inX5 hP 0 rfl rfl 2 (by decide) wf_X5_19 rfl dX5_dropOldestRecord_39 ?_
  refine x_aload_n C dX5_dropOldestRecord_42 rfl hl 2 rfl ?_
  refine x_get C inX5 hP 0 rfl rfl 2 (by decide) wf_X5_19 rfl dX5_dropOldestRecord_43 ?_
  refine x_alen C (v := (4 : Int32)) hP 1 rfl (t0 := 1) rfl rfl dX5_dropOldestRecord_46 ?_
  refine x_iconst (v := (1 : Int32)) C dX5_dropOldestRecord_47 (by decide) ?_
  refine x_isub C dX5_dropOldestRecord_48 ?_
  refine x_aload_n C dX5_dropOldestRecord_49 rfl hl 1 rfl ?_
  refine x_aast C (t0 := 1) (ws' := wRg cI cS aR X (va_up (va_up (va_up (va_up (recG X) 0 (some (X.1 3 0))) 1 (some (X.1 4 0))) 2 (some (X.1 5 0))) 3 (some (X.1 2 0))) X.2.2) (by decide) hP hD hS 1 48 0 rfl rfl rfl rfl rfl dX5_dropOldestRecord_50 (fun H locs hP hD hS => ?_)
  refine x_aload_n C dX5_dropOldestRecord_51 rfl hl 2 rfl ?_
  refine x_dup C dX5_dropOldestRecord_52 rfl ?_
  refine x_get C inX5 hP 0 rfl rfl 3 (by decide) wf_X5_124 rfl dX5_dropOldestRecord_53 ?_
  refine x_iconst (v := (1 : Int32)) C dX5_dropOldestRecord_56 (by decide) ?_
  refine x_isub C dX5_dropOldestRecord_57 ?_
  refine x_put C (ws' := wRg cI cS aR X (va_up (va_up (va_up (va_up (recG X) 0 (some (X.1 3 0))) 1 (some (X.1 4 0))) 2 (some (X.1 5 0))) 3 (some (X.1 2 0))) (X.2.2 - 1)) (ft := .int) inX5 tyX5 tyX5_ok nmX5 hP hD hS 0 rfl rfl 3 (by decide) wf_X5_124 rfl (by decide +kernel) rfl rfl (Nat.le_of_ble_eq_true rfl) rfl dX5_dropOldestRecord_58 (fun H locs hP hD hS => ?_)
  exact RET (x_vret C dX5_dropOldestRecord_61) hP hD hS
theorem rot_perm {head s0 s1 s2 s3 s4 s5 : va_W} : (head ++ (s0 ++ (s1 ++ (s3 ++ (s4 ++ (s5 ++ s2)))))).Perm (head ++ (s0 ++ (s1 ++ (s2 ++ (s3 ++ (s4 ++ s5)))))) := by
  refine List.Perm.append_left _ (List.Perm.append_left _ (List.Perm.append_left _ ?_))
  refine (List.Perm.append_left s3 (List.Perm.append_left s4 List.perm_append_comm)).trans ?_
  refine (List.Perm.append_left s3 (List.perm_append_comm_assoc s4 s2 s5)).trans ?_
  exact List.perm_append_comm_assoc s3 s2 (s4 ++ s5)
theorem Mc.postP {l : Launch} {D : va_G} {ty : List (ClassId × FieldType)} {z : Bool} {y : MethodName} {cc : ByteArray} {nL : Nat} {ret : Option FieldType} {d : Nat} {as : List Value} {w w1 w2 : va_W} {v : Option Value} (h : Mc l D ty z y cc nL ret d as w v w1) (hP : ∀ H, va_P D vwCl w1 H → va_P D vwCl w2 H) (hadr : (w2.map Prod.fst).Perm (w1.map Prod.fst)) : Mc l D ty z y cc nL ret d as w v w2 := by
  intro sz
  refine (h sz).conseq (fun _ _ h => h) ?_ (fun _ h => h)
  rintro a s o t - ⟨q1, ⟨q2, q3, q4⟩, q5⟩
  have q4' := va_D_nd.mp q4
  refine ⟨q1, ⟨hP _ q2, q3, va_D_nd.mpr ⟨hadr.nodup_iff.mpr q4'.1, fun q hq => ?_⟩⟩, q5⟩
  have : q.1 ∈ w1.map Prod.fst := hadr.mem_iff.mp (List.mem_map.mpr ⟨q, hq, rfl⟩)
  obtain ⟨q', h1, h2⟩ := List.mem_map.mp this
  rw [← h2]
  exact q4'.2 q' h1
theorem wRg_congr {D : va_G} {cI cS : ClassId} {aR : Nat → Nat} {X : RS} {g g2 : Nat → Option Nat} {r : Int32} (h : ∀ j, j < 4 → g j = g2 j) (H : Heap) (hP : va_P D vwCl (wRg cI cS aR X g r) H) : va_P D vwCl (wRg cI cS aR X g2 r) H := by
  have h' := va_P_mem.mp hP
  refine va_P_mem.mpr fun q hq => ?_
  rcases List.mem_append.mp hq with hq | hq
  · rcases List.mem_cons.mp hq with rfl | hq
    · exact h' _ (List.mem_append_left _ List.mem_cons_self)
    · obtain rfl := List.mem_singleton.mp hq
      have h2 := h' (aR 1, .inl (cS, 4, .inr (.inr (.inr (.inr g))))) (List.mem_append_left _ (List.mem_cons_of_mem _ List.mem_cons_self))
      show H[aR 1]? = some (vp_cell cS (4, .inr (.inr (.inr (.inr g2)))))
      rw [vp_cell_q, ← arrV_congr (fun j hj => congrArg va_rf (h j hj)), ← vp_cell_q]
      exact h2
  · exact h' q (List.mem_append_right _ hq)
theorem kX5_dropOldestRecord (l : Launch) (D : va_G) (cI cS : ClassId) (aR : Nat → Nat) (X : RS) : Mc l D (tyL cI cS) false yX5_dropOldestRecord cX5_dropOldestRecord 3 none 1 [.ref (aR 0)] (wR cI cS aR X) none (wR cI cS aR (rdrop X)) := by
  have hg : ∀ j, j < 4 → (va_up (va_up (va_up (va_up (recG X) 0 (some (X.1 3 0))) 1 (some (X.1 4 0))) 2 (some (X.1 5 0))) 3 (some (X.1 2 0))) j = recG (rdrop X) j := by
    intro j hj
    match j, hj with
    | 0, _ => rfl
    | 1, _ => rfl
    | 2, _ => rfl
    | 3, _ => rfl
    | j + 4, h => exact absurd h (by omega)
  have hp : ∀ g : Nat → Option Nat, (wR cI cS aR (rdrop X)).Perm (wRg cI cS aR X (recG (rdrop X)) (X.2.2 - 1)) := fun g => rot_perm
  refine (kX5_drop_raw l D cI cS aR X).postP (fun H hP => ?_) ?_
  · have hP := va_P_mem.mp (wRg_congr hg H hP)
    exact va_P_mem.mpr fun q hq => hP q ((hp (recG X)).mem_iff.mp hq)
  · exact ((hp (recG X)).map Prod.fst)
