theorem dL_law_0 : decode cL_law 0 = .ok (.new 7, 3) := by decide +kernel
theorem dL_law_3 : decode cL_law 3 = .ok (.dup, 1) := by decide +kernel
theorem dL_law_4 : decode cL_law 4 = .ok (.invokespecial 9, 3) := by decide +kernel
theorem dL_law_7 : decode cL_law 7 = .ok (.astore_n 1, 1) := by decide +kernel
theorem dL_law_8 : decode cL_law 8 = .ok (.new 10, 3) := by decide +kernel
theorem dL_law_11 : decode cL_law 11 = .ok (.dup, 1) := by decide +kernel
theorem dL_law_12 : decode cL_law 12 = .ok (.invokespecial 12, 3) := by decide +kernel
theorem dL_law_15 : decode cL_law 15 = .ok (.astore_n 2, 1) := by decide +kernel
theorem dL_law_16 : decode cL_law 16 = .ok (.iconst 0, 1) := by decide +kernel
theorem dL_law_17 : decode cL_law 17 = .ok (.istore_n 3, 1) := by decide +kernel
theorem dL_law_18 : decode cL_law 18 = .ok (.iload_n 3, 1) := by decide +kernel
theorem dL_law_19 : decode cL_law 19 = .ok (.aload_n 0, 1) := by decide +kernel
theorem dL_law_20 : decode cL_law 20 = .ok (.arraylength, 1) := by decide +kernel
theorem dL_law_21 : decode cL_law 21 = .ok (.iconst 5, 1) := by decide +kernel
theorem dL_law_22 : decode cL_law 22 = .ok (.isub, 1) := by decide +kernel
theorem dL_law_23 : decode cL_law 23 = .ok (.if_icmp .gt 804, 3) := by decide +kernel
theorem dL_law_26 : decode cL_law 26 = .ok (.aload_n 0, 1) := by decide +kernel
theorem dL_law_27 : decode cL_law 27 = .ok (.iload_n 3, 1) := by decide +kernel
theorem dL_law_28 : decode cL_law 28 = .ok (.iaload, 1) := by decide +kernel
theorem dL_law_29 : decode cL_law 29 = .ok (.bipush 31, 2) := by decide +kernel
theorem dL_law_31 : decode cL_law 31 = .ok (.iand, 1) := by decide +kernel
theorem dL_law_32 : decode cL_law 32 = .ok (.tableswitch 789 0 21 #[104, 147, 180, 213, 236, 285, 338, 361, 394, 417, 450, 483, 506, 529, 562, 611, 660, 693, 716, 749, 762, 775], 104) := by decide +kernel
theorem dL_law_821 : decode cL_law 821 = .ok (.iinc 3 5, 3) := by decide +kernel
theorem dL_law_824 : decode cL_law 824 = .ok (.goto (-806), 3) := by decide +kernel
theorem dL_law_827 : decode cL_law 827 = .ok (.iconst 1, 1) := by decide +kernel
theorem dL_law_828 : decode cL_law 828 = .ok (.ireturn, 1) := by decide +kernel
set_option maxHeartbeats 4000000 in
set_option maxRecDepth 100000 in
theorem law_loop {p : Program} {l : Launch} {e : Env} {s : State} {m : MethodId} {below : List Frame} {meth : Method} {c : Code} {A : Nat → Prop} {Q : State → Prop} {D : va_G} {cI cS : ClassId} {b L : Nat} {xs : Nat → Int32} {aR aM : Nat → Nat} {retL : Option FieldType} (C : Cx p s m #[Value.ref b] meth c RL cL_law 4 retL D (tyL cI cS)) (hA : ∀ q, s.heap.size ≤ q → A q) (hz : ZZ A s s.heap) (hX : va_X b L xs s s.heap) (hbl : b < s.heap.size) (hbA : ¬ A b) {Rel : Nat → RS → MS → Prop} (hs : St_all Rel) (hL : L ≤ 2560) (DONE : ∀ (H : Heap) (locs : List Loc) (ls : Array Slot), va_S A s.heap H locs → W p l e room_1 s m #[Value.ref b] below meth c H locs 146 9640 Q (F0 m 827 ls [])) :
    ∀ (k n : Nat) (X : RS) (M : MS), n + k = 513 → Rel n X M → ∀ (H : Heap) (locs : List Loc) (ls : Array Slot) (x3 : Int32), x3 = nI (5 * n) → va_P D vwCl (wL cI cS aR aM X M) H → va_D A (wL cI cS aR aM X M) → va_S A s.heap H locs → lv_has ls 4 [(0, .ref b), (1, .ref (aR 0)), (2, .ref (aM 0)), (3, .int x3)] → W p l e room_1 s m #[Value.ref b] below meth c H locs 146 9640 Q (F0 m 18 ls []) := by
  obtain ⟨hm, s0, s1, s2, s3, s4, s5, s6, s7, s8, s9, s10, s11, s12, s13, s14, s15, s16, s17, s18, s19, s20, s21⟩ := hs
  intro k
  induction k with
  | zero =>
    intro n X M hk hr H locs ls x3 e3 hP hD hS hl
    refine x_iload_n C dL_law_18 rfl hl 3 rfl ?_
    refine x_aload_n C dL_law_19 rfl hl 0 rfl ?_
    refine x_slen C hX hbl hbA hS dL_law_20 ?_
    refine x_iconst (v := (5 : Int32)) C dL_law_21 (by decide) ?_
    refine x_isub C dL_law_22 ?_
    refine x_gtK (tgt := 827) C dL_law_23 (by decide) (fun hc => ?_) (fun hc => ?_)
    · exact DONE _ _ _ hS
    · exfalso
      apply hc
      rw [e3]
      have e5 : (5 : Int32) = nI 5 := rfl
      rw [Int32.lt_iff_toInt_lt, e5, pk_sub_toInt (by omega) (by omega), nI_toInt (by omega)]
      omega
  | succ k ih =>
    intro n X M hk hr H locs ls x3 e3 hP hD hS hl
    refine x_iload_n C dL_law_18 rfl hl 3 rfl ?_
    refine x_aload_n C dL_law_19 rfl hl 0 rfl ?_
    refine x_slen C hX hbl hbA hS dL_law_20 ?_
    refine x_iconst (v := (5 : Int32)) C dL_law_21 (by decide) ?_
    refine x_isub C dL_law_22 ?_
    refine x_gtK (tgt := 827) C dL_law_23 (by decide) (fun hc => ?_) (fun hc => ?_)
    · exact DONE _ _ _ hS
    have hle : 5 * n + 5 ≤ L := by
      apply Classical.byContradiction
      intro hno
      apply hc
      rw [e3]
      have e5 : (5 : Int32) = nI 5 := rfl
      rw [Int32.lt_iff_toInt_lt, e5, pk_sub_toInt (by omega) (by omega), nI_toInt (by omega)]
      omega
    have hn : n < 512 := by omega
    have i0 : okI x3 L := by rw [e3]; exact okI_nI (by omega) (by omega)
    have i1 : okI (x3 + (1 : Int32)) L := by rw [e3, show nI (5 * n) + (1 : Int32) = nI (5 * n + 1) from nI_add _ 1]; exact okI_nI (by omega) (by omega)
    have i2 : okI (x3 + (2 : Int32)) L := by rw [e3, show nI (5 * n) + (2 : Int32) = nI (5 * n + 2) from nI_add _ 2]; exact okI_nI (by omega) (by omega)
    have i3 : okI (x3 + (3 : Int32)) L := by rw [e3, show nI (5 * n) + (3 : Int32) = nI (5 * n + 3) from nI_add _ 3]; exact okI_nI (by omega) (by omega)
    have i4 : okI (x3 + (4 : Int32)) L := by rw [e3, show nI (5 * n) + (4 : Int32) = nI (5 * n + 4) from nI_add _ 4]; exact okI_nI (by omega) (by omega)
    have TAIL : ∀ (X : RS) (M : MS), Rel (n + 1) X M → ∀ (H : Heap) (locs : List Loc) (ls : Array Slot), va_P D vwCl (wL cI cS aR aM X M) H → va_D A (wL cI cS aR aM X M) → va_S A s.heap H locs → lv_has ls 4 [(0, .ref b), (1, .ref (aR 0)), (2, .ref (aM 0)), (3, .int x3)] → W p l e room_1 s m #[Value.ref b] below meth c H locs 146 9640 Q (F0 m 821 ls []) := by
      intro X M hr H locs ls hP hD hS hl
      refine x_iinc (v := x3 + (5 : Int32)) (lv' := [(3, .int (x3 + (5 : Int32))), (0, .ref b), (1, .ref (aR 0)), (2, .ref (aM 0))]) C dL_law_821 hl (k := 3) rfl rfl (by decide) rfl (fun ls hl => ?_)
      refine x_goto (tgt := 18) C dL_law_824 (by decide) ?_
      exact ih (n + 1) X M (by omega) hr H locs ls (x3 + (5 : Int32)) (by rw [e3]; exact nI_add (5 * n) 5) hP hD hS (lv_sub hl [1, 2, 3, 0] rfl)
    refine x_aload_n C dL_law_26 rfl hl 0 rfl ?_
    refine x_iload_n C dL_law_27 rfl hl 3 rfl ?_
    refine x_sld C hX hbl hbA hS i0 dL_law_28 ?_
    refine x_bipush (v := (31 : Int32)) C dL_law_29 (by decide) ?_
    refine x_iand C dL_law_31 ?_
    obtain ⟨j, hj, hv⟩ := pk_andE (xs x3.toNatClampNeg) (m := 31) 5 (by decide)
    match j, hj, hv with
    | 0, _, hv =>
      refine x_tabIn (tgt := 136) C dL_law_32 (by rw [hv]; decide) (by rw [hv]; decide) (by rw [hv]; rfl) (by decide) ?_
      exact law_set C hA hz hX hbl hbA s0 hm hn i1 i2 i3 TAIL X M hr H locs ls hP hD hS hl
    | 1, _, hv =>
      refine x_tabIn (tgt := 179) C dL_law_32 (by rw [hv]; decide) (by rw [hv]; decide) (by rw [hv]; rfl) (by decide) ?_
      exact law_property C hA hz hX hbl hbA s1 hm hn i1 i2 TAIL X M hr H locs ls hP hD hS hl
    | 2, _, hv =>
      refine x_tabIn (tgt := 212) C dL_law_32 (by rw [hv]; decide) (by rw [hv]; decide) (by rw [hv]; rfl) (by decide) ?_
      exact law_setServer C hA hz hX hbl hbA s2 hm hn i1 i2 TAIL X M hr H locs ls hP hD hS hl
    | 3, _, hv =>
      refine x_tabIn (tgt := 245) C dL_law_32 (by rw [hv]; decide) (by rw [hv]; decide) (by rw [hv]; rfl) (by decide) ?_
      exact law_setDiscipline C hA hz hX hbl hbA s3 hm hn i1 TAIL X M hr H locs ls hP hD hS hl
    | 4, _, hv =>
      refine x_tabIn (tgt := 268) C dL_law_32 (by rw [hv]; decide) (by rw [hv]; decide) (by rw [hv]; rfl) (by decide) ?_
      exact law_setSwitch C hA hz hX hbl hbA s4 hm hn i1 i2 TAIL X M hr H locs ls hP hD hS hl
    | 5, _, hv =>
      refine x_tabIn (tgt := 317) C dL_law_32 (by rw [hv]; decide) (by rw [hv]; decide) (by rw [hv]; rfl) (by decide) ?_
      exact law_surge C hA hz hX hbl hbA s5 hm hn i1 i2 i3 i4 TAIL X M hr H locs ls hP hD hS hl
    | 6, _, hv =>
      refine x_tabIn (tgt := 370) C dL_law_32 (by rw [hv]; decide) (by rw [hv]; decide) (by rw [hv]; rfl) (by decide) ?_
      exact law_run C hA hz hX hbl hbA s6 hm hn i1 TAIL X M hr H locs ls hP hD hS hl
    | 7, _, hv =>
      refine x_tabIn (tgt := 393) C dL_law_32 (by rw [hv]; decide) (by rw [hv]; decide) (by rw [hv]; rfl) (by decide) ?_
      exact law_ifRun C hA hz hX hbl hbA s7 hm hn i1 i2 TAIL X M hr H locs ls hP hD hS hl
    | 8, _, hv =>
      refine x_tabIn (tgt := 426) C dL_law_32 (by rw [hv]; decide) (by rw [hv]; decide) (by rw [hv]; rfl) (by decide) ?_
      exact law_bestDiscipline C hA hz hX hbl hbA s8 hm hn i1 TAIL X M hr H locs ls hP hD hS hl
    | 9, _, hv =>
      refine x_tabIn (tgt := 449) C dL_law_32 (by rw [hv]; decide) (by rw [hv]; decide) (by rw [hv]; rfl) (by decide) ?_
      exact law_count C hA hz hX hbl hbA s9 hm hn i1 i2 TAIL X M hr H locs ls hP hD hS hl
    | 10, _, hv =>
      refine x_tabIn (tgt := 482) C dL_law_32 (by rw [hv]; decide) (by rw [hv]; decide) (by rw [hv]; rfl) (by decide) ?_
      exact law_succeededAt C hA hz hX hbl hbA s10 hm hn i1 i2 TAIL X M hr H locs ls hP hD hS hl
    | 11, _, hv =>
      refine x_tabIn (tgt := 515) C dL_law_32 (by rw [hv]; decide) (by rw [hv]; decide) (by rw [hv]; rfl) (by decide) ?_
      exact law_told C hA hz hX hbl hbA s11 hm hn i1 TAIL X M hr H locs ls hP hD hS hl
    | 12, _, hv =>
      refine x_tabIn (tgt := 538) C dL_law_32 (by rw [hv]; decide) (by rw [hv]; decide) (by rw [hv]; rfl) (by decide) ?_
      exact law_live C hA hz hX hbl hbA s12 hm hn i1 TAIL X M hr H locs ls hP hD hS hl
    | 13, _, hv =>
      refine x_tabIn (tgt := 561) C dL_law_32 (by rw [hv]; decide) (by rw [hv]; decide) (by rw [hv]; rfl) (by decide) ?_
      exact law_request C hA hz hX hbl hbA s13 hm hn i1 i2 TAIL X M hr H locs ls hP hD hS hl
    | 14, _, hv =>
      refine x_tabIn (tgt := 594) C dL_law_32 (by rw [hv]; decide) (by rw [hv]; decide) (by rw [hv]; rfl) (by decide) ?_
      exact law_queued C hA hz hX hbl hbA s14 hm hn i1 i2 TAIL X M hr H locs ls hP hD hS hl
    | 15, _, hv =>
      refine x_tabIn (tgt := 643) C dL_law_32 (by rw [hv]; decide) (by rw [hv]; decide) (by rw [hv]; rfl) (by decide) ?_
      exact law_atWorker C hA hz hX hbl hbA s15 hm hn i1 i2 TAIL X M hr H locs ls hP hD hS hl
    | 16, _, hv =>
      refine x_tabIn (tgt := 692) C dL_law_32 (by rw [hv]; decide) (by rw [hv]; decide) (by rw [hv]; rfl) (by decide) ?_
      exact law_window C hA hz hX hbl hbA s16 hm hn i1 i2 TAIL X M hr H locs ls hP hD hS hl
    | 17, _, hv =>
      refine x_tabIn (tgt := 725) C dL_law_32 (by rw [hv]; decide) (by rw [hv]; decide) (by rw [hv]; rfl) (by decide) ?_
      exact law_quiet C hA hz hX hbl hbA s17 hm hn i1 TAIL X M hr H locs ls hP hD hS hl
    | 18, _, hv =>
      refine x_tabIn (tgt := 748) C dL_law_32 (by rw [hv]; decide) (by rw [hv]; decide) (by rw [hv]; rfl) (by decide) ?_
      exact law_recovery C hA hz hX hbl hbA s18 hm hn i1 i2 TAIL X M hr H locs ls hP hD hS hl
    | 19, _, hv =>
      refine x_tabIn (tgt := 781) C dL_law_32 (by rw [hv]; decide) (by rw [hv]; decide) (by rw [hv]; rfl) (by decide) ?_
      exact law_amplification C hA hz hX hbl hbA s19 hm hn  TAIL X M hr H locs ls hP hD hS hl
    | 20, _, hv =>
      refine x_tabIn (tgt := 794) C dL_law_32 (by rw [hv]; decide) (by rw [hv]; decide) (by rw [hv]; rfl) (by decide) ?_
      exact law_undo C hA hz hX hbl hbA s20 hm hn  TAIL X M hr H locs ls hP hD hS hl
    | 21, _, hv =>
      refine x_tabIn (tgt := 807) C dL_law_32 (by rw [hv]; decide) (by rw [hv]; decide) (by rw [hv]; rfl) (by decide) ?_
      exact law_digest C hA hz hX hbl hbA s21 hm hn  TAIL X M hr H locs ls hP hD hS hl
    | j + 22, hj, hv =>
      refine x_switch (tgt := 821) C dL_law_32 (Or.inr (by rw [hv, nI_toInt (by omega)]; omega)) (by decide) ?_
      exact TAIL X M (hm _ _ _ hr) H locs ls hP hD hS hl
/-! THE CLAIM OUT OF ONE WALK OF THE LAW'S BODY. Your part is whole_start (and what it stands on); all else here is the same for every law, but numbers. -/
def R_law : String := "RetryStormLaw"
def lw_P (b : Addr) (xs : List Int32) (args : Array Value) (s : State) : Prop := args = #[.ref b] ∧ s.IntsAt b xs ∧ xs.length ≤ 2560 ∧ (Jvm.Cond.and given_1 narrow_1).before args s = true
def lw_Q (_ : Array Value) (s : State) (o : Outcome) (t : State) : Prop := o = .returned (some (.int 1)) ∧ Framed s o t [] 600000 7302250
def lw_Z (below : List Frame) (a : Array Value) (s : State) : State → Prop := fun t => ∃ o, t.status = .running ∧ Ended t below o ∧ lw_Q a s o t
/-- the law's own end, with 1 on the stack, nothing written that was there before, its room as the claim has it -/
theorem lw_ret {p : Program} {l : Launch} {e : Env} {s : State} {m : MethodId} {below : List Frame} {meth : Method} {c : Code} {b : Nat} (hx : p.tables.exec = Jvm.exec) (hb : c.code = code) (hr : meth.sig.returnType = ret) (hlocks : meth.locks = false) {pc : Nat} {H : Heap} {ls : Array Slot} (hdg : decode code pc = .ok (.ireturn, 1)) : W p l e room_1 s m #[Value.ref b] below meth c H [] 600000 7302250 (lw_Z below #[Value.ref b] s) (F0 m pc ls [.int 1]) := by
  intro T hT X
  obtain ⟨fs, hret, hrun, hended, hW, hframe⟩ := X.leave (v := some (.int 1)) (hlocks := hlocks) (fun h => by rw [hr] at h; cases h)
  have hmeth' : T.vm.method? m = some meth := X.method'
  refine ⟨T.setFrames fs, ?_, .returned (some (.int 1)), hrun, hended, rfl, ⟨_, rfl⟩, hW, hframe⟩
  jvm_step X.here [X.here.top, hx, hb, hdg, hmeth', hr, ret, narrow_b1]
  (try refine ⟨rfl, ?_⟩); (try refine ⟨rfl, ?_⟩)
  first | (intro acts; rw [hret _ acts rfl rfl rfl]) | rw [hret _ _ rfl rfl rfl]
  exact Steps.refl _
/-- what holds at the law's entry: the machine, the code, the tables' words (any of lw_tbl by 'hts w (by decide +kernel)'), the script of L ints xs at the cell b, what the Statement gives of the start (any of its parts by flat_of_before) -/
def lw_At (p : Program) (s : State) (m : MethodId) (meth : Method) (c : Code) (b L : Nat) (xs : Nat → Int32) : Prop :=
  p.tables.exec = Jvm.exec ∧ c.code = code ∧ meth.sig.returnType = ret ∧ c.maxLocals = 4 ∧ s.vm.findClass R_law = some m.cls ∧ (∀ w ∈ lw_tbl, w.before #[Value.ref b] s = true) ∧ va_X b L xs s s.heap ∧ b < s.heap.size ∧ meth.locks = false ∧ (Jvm.Cond.and given_1 narrow_1).before #[Value.ref b] s = true

/-- the three static tables at the law's start -/
theorem law_ZZ {s : State} {b : Nat} (hts : ∀ w ∈ lw_tbl, w.before #[Value.ref b] s = true) (hgv : (Jvm.Cond.and given_1 narrow_1).before #[Value.ref b] s = true) : ZZ (fun q => s.heap.size ≤ q) s s.heap := by
  have hW : ∀ w ∈ WS, w.before #[Value.ref b] s = true := fun w h => hts w (WS_tbl w h)
  have hg := flat_of_before _ hgv
  have hT_LEAST : ZT "LEAST" leastL (fun q => s.heap.size ≤ q) s s.heap := by
    have harr : (Jvm.Cond.arrayOf (Jvm.Term.static "RetryStorm" "LEAST" "[I") .int).before #[Value.ref b] s = true := hg _ (by decide +kernel)
    have hlen : (Jvm.Cond.eq (Jvm.Term.length (Jvm.Term.static "RetryStorm" "LEAST" "[I")) (Jvm.Term.int (12 : Int32))).before #[Value.ref b] s = true := hg _ (by decide +kernel)
    obtain ⟨t, h1, h2⟩ := va_Tof (tm := Jvm.Term.static "RetryStorm" "LEAST" "[I") (N := 12) (f := tabF leastL) (A := fun q => s.heap.size ≤ q) (by decide) harr (va_eqt hlen) (fun j hj => by
      match j, hj with
      | 0, _ => exact va_eqt (t := Jvm.Term.elem (Jvm.Term.static "RetryStorm" "LEAST" "[I") (Jvm.Term.int (0 : Int32))) (z := 0) (hg _ (by decide +kernel))
      | 1, _ => exact va_eqt (t := Jvm.Term.elem (Jvm.Term.static "RetryStorm" "LEAST" "[I") (Jvm.Term.int (1 : Int32))) (z := 0) (hg _ (by decide +kernel))
      | 2, _ => exact va_eqt (t := Jvm.Term.elem (Jvm.Term.static "RetryStorm" "LEAST" "[I") (Jvm.Term.int (2 : Int32))) (z := 1) (hg _ (by decide +kernel))
      | 3, _ => exact va_eqt (t := Jvm.Term.elem (Jvm.Term.static "RetryStorm" "LEAST" "[I") (Jvm.Term.int (3 : Int32))) (z := 1) (hg _ (by decide +kernel))
      | 4, _ => exact va_eqt (t := Jvm.Term.elem (Jvm.Term.static "RetryStorm" "LEAST" "[I") (Jvm.Term.int (4 : Int32))) (z := 1) (hg _ (by decide +kernel))
      | 5, _ => exact va_eqt (t := Jvm.Term.elem (Jvm.Term.static "RetryStorm" "LEAST" "[I") (Jvm.Term.int (5 : Int32))) (z := 1) (hg _ (by decide +kernel))
      | 6, _ => exact va_eqt (t := Jvm.Term.elem (Jvm.Term.static "RetryStorm" "LEAST" "[I") (Jvm.Term.int (6 : Int32))) (z := 1) (hg _ (by decide +kernel))
      | 7, _ => exact va_eqt (t := Jvm.Term.elem (Jvm.Term.static "RetryStorm" "LEAST" "[I") (Jvm.Term.int (7 : Int32))) (z := 0) (hg _ (by decide +kernel))
      | 8, _ => exact va_eqt (t := Jvm.Term.elem (Jvm.Term.static "RetryStorm" "LEAST" "[I") (Jvm.Term.int (8 : Int32))) (z := 1) (hg _ (by decide +kernel))
      | 9, _ => exact va_eqt (t := Jvm.Term.elem (Jvm.Term.static "RetryStorm" "LEAST" "[I") (Jvm.Term.int (9 : Int32))) (z := 0) (hg _ (by decide +kernel))
      | 10, _ => exact va_eqt (t := Jvm.Term.elem (Jvm.Term.static "RetryStorm" "LEAST" "[I") (Jvm.Term.int (10 : Int32))) (z := 0) (hg _ (by decide +kernel))
      | 11, _ => exact va_eqt (t := Jvm.Term.elem (Jvm.Term.static "RetryStorm" "LEAST" "[I") (Jvm.Term.int (11 : Int32))) (z := 0) (hg _ (by decide +kernel))
      | j + 12, h => exact absurd h (by omega)) (fun a ha => Nat.not_le.mpr ha)
    exact ⟨t, va_Zof (hts _ wl_X5_LEAST) (hW _ wz_X5) h1 (fun a ha => Nat.not_le.mpr ha), h2⟩
  have hT_MOST : ZT "MOST" mostL (fun q => s.heap.size ≤ q) s s.heap := by
    have harr : (Jvm.Cond.arrayOf (Jvm.Term.static "RetryStorm" "MOST" "[I") .int).before #[Value.ref b] s = true := hg _ (by decide +kernel)
    have hlen : (Jvm.Cond.eq (Jvm.Term.length (Jvm.Term.static "RetryStorm" "MOST" "[I")) (Jvm.Term.int (12 : Int32))).before #[Value.ref b] s = true := hg _ (by decide +kernel)
    obtain ⟨t, h1, h2⟩ := va_Tof (tm := Jvm.Term.static "RetryStorm" "MOST" "[I") (N := 12) (f := tabF mostL) (A := fun q => s.heap.size ≤ q) (by decide) harr (va_eqt hlen) (fun j hj => by
      match j, hj with
      | 0, _ => exact va_eqt (t := Jvm.Term.elem (Jvm.Term.static "RetryStorm" "MOST" "[I") (Jvm.Term.int (0 : Int32))) (z := 50) (hg _ (by decide +kernel))
      | 1, _ => exact va_eqt (t := Jvm.Term.elem (Jvm.Term.static "RetryStorm" "MOST" "[I") (Jvm.Term.int (1 : Int32))) (z := 50) (hg _ (by decide +kernel))
      | 2, _ => exact va_eqt (t := Jvm.Term.elem (Jvm.Term.static "RetryStorm" "MOST" "[I") (Jvm.Term.int (2 : Int32))) (z := 60) (hg _ (by decide +kernel))
      | 3, _ => exact va_eqt (t := Jvm.Term.elem (Jvm.Term.static "RetryStorm" "MOST" "[I") (Jvm.Term.int (3 : Int32))) (z := 6) (hg _ (by decide +kernel))
      | 4, _ => exact va_eqt (t := Jvm.Term.elem (Jvm.Term.static "RetryStorm" "MOST" "[I") (Jvm.Term.int (4 : Int32))) (z := 40) (hg _ (by decide +kernel))
      | 5, _ => exact va_eqt (t := Jvm.Term.elem (Jvm.Term.static "RetryStorm" "MOST" "[I") (Jvm.Term.int (5 : Int32))) (z := 16) (hg _ (by decide +kernel))
      | 6, _ => exact va_eqt (t := Jvm.Term.elem (Jvm.Term.static "RetryStorm" "MOST" "[I") (Jvm.Term.int (6 : Int32))) (z := 64) (hg _ (by decide +kernel))
      | 7, _ => exact va_eqt (t := Jvm.Term.elem (Jvm.Term.static "RetryStorm" "MOST" "[I") (Jvm.Term.int (7 : Int32))) (z := 3) (hg _ (by decide +kernel))
      | 8, _ => exact va_eqt (t := Jvm.Term.elem (Jvm.Term.static "RetryStorm" "MOST" "[I") (Jvm.Term.int (8 : Int32))) (z := 12) (hg _ (by decide +kernel))
      | 9, _ => exact va_eqt (t := Jvm.Term.elem (Jvm.Term.static "RetryStorm" "MOST" "[I") (Jvm.Term.int (9 : Int32))) (z := 12) (hg _ (by decide +kernel))
      | 10, _ => exact va_eqt (t := Jvm.Term.elem (Jvm.Term.static "RetryStorm" "MOST" "[I") (Jvm.Term.int (10 : Int32))) (z := 20) (hg _ (by decide +kernel))
      | 11, _ => exact va_eqt (t := Jvm.Term.elem (Jvm.Term.static "RetryStorm" "MOST" "[I") (Jvm.Term.int (11 : Int32))) (z := 10) (hg _ (by decide +kernel))
      | j + 12, h => exact absurd h (by omega)) (fun a ha => Nat.not_le.mpr ha)
    exact ⟨t, va_Zof (hts _ wl_X5_MOST) (hW _ wz_X5) h1 (fun a ha => Nat.not_le.mpr ha), h2⟩
  have hT_AT_FIRST : ZT "AT_FIRST" firstL (fun q => s.heap.size ≤ q) s s.heap := by
    have harr : (Jvm.Cond.arrayOf (Jvm.Term.static "RetryStorm" "AT_FIRST" "[I") .int).before #[Value.ref b] s = true := hg _ (by decide +kernel)
    have hlen : (Jvm.Cond.eq (Jvm.Term.length (Jvm.Term.static "RetryStorm" "AT_FIRST" "[I")) (Jvm.Term.int (12 : Int32))).before #[Value.ref b] s = true := hg _ (by decide +kernel)
    obtain ⟨t, h1, h2⟩ := va_Tof (tm := Jvm.Term.static "RetryStorm" "AT_FIRST" "[I") (N := 12) (f := tabF firstL) (A := fun q => s.heap.size ≤ q) (by decide) harr (va_eqt hlen) (fun j hj => by
      match j, hj with
      | 0, _ => exact va_eqt (t := Jvm.Term.elem (Jvm.Term.static "RetryStorm" "AT_FIRST" "[I") (Jvm.Term.int (0 : Int32))) (z := 0) (hg _ (by decide +kernel))
      | 1, _ => exact va_eqt (t := Jvm.Term.elem (Jvm.Term.static "RetryStorm" "AT_FIRST" "[I") (Jvm.Term.int (1 : Int32))) (z := 0) (hg _ (by decide +kernel))
      | 2, _ => exact va_eqt (t := Jvm.Term.elem (Jvm.Term.static "RetryStorm" "AT_FIRST" "[I") (Jvm.Term.int (2 : Int32))) (z := 20) (hg _ (by decide +kernel))
      | 3, _ => exact va_eqt (t := Jvm.Term.elem (Jvm.Term.static "RetryStorm" "AT_FIRST" "[I") (Jvm.Term.int (3 : Int32))) (z := 3) (hg _ (by decide +kernel))
      | 4, _ => exact va_eqt (t := Jvm.Term.elem (Jvm.Term.static "RetryStorm" "AT_FIRST" "[I") (Jvm.Term.int (4 : Int32))) (z := 10) (hg _ (by decide +kernel))
      | 5, _ => exact va_eqt (t := Jvm.Term.elem (Jvm.Term.static "RetryStorm" "AT_FIRST" "[I") (Jvm.Term.int (5 : Int32))) (z := 2) (hg _ (by decide +kernel))
      | 6, _ => exact va_eqt (t := Jvm.Term.elem (Jvm.Term.static "RetryStorm" "AT_FIRST" "[I") (Jvm.Term.int (6 : Int32))) (z := 16) (hg _ (by decide +kernel))
      | 7, _ => exact va_eqt (t := Jvm.Term.elem (Jvm.Term.static "RetryStorm" "AT_FIRST" "[I") (Jvm.Term.int (7 : Int32))) (z := 0) (hg _ (by decide +kernel))
      | 8, _ => exact va_eqt (t := Jvm.Term.elem (Jvm.Term.static "RetryStorm" "AT_FIRST" "[I") (Jvm.Term.int (8 : Int32))) (z := 2) (hg _ (by decide +kernel))
      | 9, _ => exact va_eqt (t := Jvm.Term.elem (Jvm.Term.static "RetryStorm" "AT_FIRST" "[I") (Jvm.Term.int (9 : Int32))) (z := 0) (hg _ (by decide +kernel))
      | 10, _ => exact va_eqt (t := Jvm.Term.elem (Jvm.Term.static "RetryStorm" "AT_FIRST" "[I") (Jvm.Term.int (10 : Int32))) (z := 20) (hg _ (by decide +kernel))
      | 11, _ => exact va_eqt (t := Jvm.Term.elem (Jvm.Term.static "RetryStorm" "AT_FIRST" "[I") (Jvm.Term.int (11 : Int32))) (z := 10) (hg _ (by decide +kernel))
      | j + 12, h => exact absurd h (by omega)) (fun a ha => Nat.not_le.mpr ha)
    exact ⟨t, va_Zof (hts _ wl_X5_AT_FIRST) (hW _ wz_X5) h1 (fun a ha => Nat.not_le.mpr ha), h2⟩
  exact ⟨hT_LEAST, hT_MOST, hT_AT_FIRST⟩
theorem law_K {s : State} {b : Nat} (hts : ∀ w ∈ lw_tbl, w.before #[Value.ref b] s = true) : ∃ (D : va_G) (cI cS : ClassId), va_K D vwCl (tyL cI cS) s := by
  have hW : ∀ w ∈ WS, w.before #[Value.ref b] s = true := fun w h => hts w (WS_tbl w h)
  obtain ⟨c0, iS0, h0⟩ := u_known (C := RX2) (T := TX2) (N := 18) (n := 18) hW inX2 (hW _ wa_X2)
  obtain ⟨c1, iS1, h1⟩ := u_known (C := RX3) (T := TX3) (N := 3) (n := 3) hW inX3 (hW _ wa_X3)
  obtain ⟨c2, iS2, h2⟩ := u_known (C := RX5) (T := TX5) (N := 4) (n := 4) hW inX5 (hW _ wa_X5)
  obtain ⟨c3, iS3, h3⟩ := u_known (C := RX6) (T := TX6) (N := 10) (n := 10) hW inX6 (hW _ wa_X6)
  obtain ⟨cI, kI, compI, a1, a2, a3⟩ := Cond.arrayClass_spec (hW _ w_arrI)
  obtain ⟨compS, cS, kS, b1, -, b3, b4, b5⟩ := Cond.arrayOver_spec (hts _ w_arrS)
  refine ⟨(fun k => [c0, c1, c2, c3].getD k 0, fun k => [iS0, iS1, iS2, iS3].getD k iS0), cI, cS, ?_, ?_⟩
  · intro k q hq
    match k, hq with
    | 0, hq => cases hq; exact h0
    | 1, hq => cases hq; exact h1
    | 2, hq => cases hq; exact h2
    | 3, hq => cases hq; exact h3
    | k + 4, hq => simp [vwCl] at hq
  · intro k q hq
    match k, hq with
    | 0, hq => cases hq; exact ⟨fun n z => ⟨(fun k h => by cases h), kI, a2, compI, a3⟩, a1⟩
    | 1, hq => cases hq; exact ⟨fun n z => ⟨(fun k h => by cases h), kS, b3, compS, b4⟩, kS, compS, b3, b4, b1, b5⟩
    | k + 2, hq => simp [tyL] at hq
set_option maxHeartbeats 4000000 in
set_option maxRecDepth 100000 in
/-- the law from its entry, over a relation that all calls keep -/
theorem whole_open {Rel : Nat → RS → MS → Prop} (hs : St_all Rel) (h0 : ∀ B : Nat → Nat → Nat, Rel 0 (B, fun _ => initS, 0) initM) {p : Program} {e : Env} {s : State} {m : MethodId} {below : List Frame} {meth : Method} {c : Code} (l : Launch) {b L : Nat} {xs : Nat → Int32} (hL : L ≤ 2560) (C0 : lw_At p s m meth c b L xs) : W p l e room_1 s m #[Value.ref b] below meth c s.heap [] 0 0 (lw_Z below #[Value.ref b] s) (entryFrame m ([Value.ref b] : List Value).toArray 4) := by
  obtain ⟨hx, hb, hr, hml, hown, hts, hX, hbl, hlocks, hgv⟩ := C0
  have hW : ∀ w ∈ WS, w.before #[Value.ref b] s = true := fun w h => hts w (WS_tbl w h)
  have hz := law_ZZ hts hgv
  obtain ⟨D, cI, cS, hK⟩ := law_K hts
  have hN : NN s := ⟨va_Nw.of rfl (hts _ wf_X2_54), va_AO.of (hts _ w_arrS)⟩
  have C : Cx p s m #[Value.ref b] meth c RL cL_law 4 ret D (tyL cI cS) := ⟨hx, hb, hml, hown, hW, hK, hr, hlocks⟩
  have hA : ∀ q : Nat, s.heap.size ≤ q → (fun q : Nat => s.heap.size ≤ q) q := fun _ h => h
  have hbA : ¬ (fun q : Nat => s.heap.size ≤ q) b := Nat.not_le.mpr hbl
  have hS : va_S (fun q : Nat => s.heap.size ≤ q) s.heap s.heap [] := va_S.rf
  have hP : va_P D vwCl [] s.heap := fun k q h => by simp at h
  have hD : va_D (fun q : Nat => s.heap.size ≤ q) [] := ⟨fun i j p q h => by simp at h, fun k q h => by simp at h⟩
  have hl := lv_entry ([.ref b]) (n := 4) (Nat.le_of_ble_eq_true rfl)
  rw [lg_entry_eq]
  generalize (lg_sl ([.ref b]) ++ List.replicate (4 - (lg_sl ([.ref b])).length) Slot.unset).toArray = ls at hl ⊢
  generalize hAe : (fun q : Nat => s.heap.size ≤ q) = A at hz hA hbA hS hD
  refine x_new C (ci := 2) (fs := [.null, .null, .null, .int 0]) inX5 tyX5 tyX5_ok wk_L_7 wa_X5 wz_X5 hP hD hS hA rfl (fun j hj => by rcases (show j = 0 ∨ j = 1 ∨ j = 2 ∨ j = 3 by omega) with rfl | rfl | rfl | rfl <;> rfl) (Nat.le_of_ble_eq_true rfl) (Nat.le_of_ble_eq_true rfl) dL_law_0 (fun rA H hP hD hS => ?_)
  refine x_dup C dL_law_3 rfl ?_
  refine x_callI (n := 0) (wr := []) (wc := [(rA, .inr (2, [.null, .null, .null, .int 0]))]) (As := []) C (kX5_init l D cI cS rA) hz hN wm_L_9 wi_X5_init wz_X5 wc_X5_init (by decide +kernel) rfl hP hD hS hA hl.1 dL_law_4 rfl (Nat.le_of_ble_eq_true rfl) ⟨Nat.le_of_ble_eq_true rfl, Nat.le_of_ble_eq_true rfl⟩ ⟨Nat.le_of_ble_eq_true rfl, Nat.le_of_ble_eq_true rfl⟩ (fun u H locs hP hD hS => ?_)
  refine x_astore_n (lv' := [(1, .ref rA), (0, .ref b)]) C dL_law_7 rfl hl (by decide) rfl (fun ls hl => ?_)
  refine x_new C (ci := 3) (fs := [.null, .int 0, .null, .null, .null, .int 0, .int 0, .int 0, .int 0, .null]) inX6 tyX6 tyX6_ok wk_L_10 wa_X6 wz_X6 hP hD hS hA rfl (fun j hj => by rcases (show j = 0 ∨ j = 1 ∨ j = 2 ∨ j = 3 ∨ j = 4 ∨ j = 5 ∨ j = 6 ∨ j = 7 ∨ j = 8 ∨ j = 9 by omega) with rfl | rfl | rfl | rfl | rfl | rfl | rfl | rfl | rfl | rfl <;> rfl) (Nat.le_of_ble_eq_true rfl) (Nat.le_of_ble_eq_true rfl) dL_law_8 (fun mA H hP hD hS => ?_)
  refine x_dup C dL_law_11 rfl ?_
  refine x_callI (n := 0) (wr := bornR rA u cI cS) (wc := [(mA, .inr (3, [.null, .int 0, .null, .null, .null, .int 0, .int 0, .int 0, .int 0, .null]))]) (As := []) C (kX6_init l D cI cS mA) hz hN wm_L_12 wi_X6_init wz_X6 wc_X6_init (by decide +kernel) rfl hP hD hS hA hl.1 dL_law_12 rfl (Nat.le_of_ble_eq_true rfl) ⟨Nat.le_of_ble_eq_true rfl, Nat.le_of_ble_eq_true rfl⟩ ⟨Nat.le_of_ble_eq_true rfl, Nat.le_of_ble_eq_true rfl⟩ (fun u2 H locs hP hD hS => ?_)
  refine x_astore_n (lv' := [(2, .ref mA), (1, .ref rA), (0, .ref b)]) C dL_law_15 rfl hl (by decide) rfl (fun ls hl => ?_)
  refine x_iconst (v := (0 : Int32)) C dL_law_16 (by decide) ?_
  refine x_istore_n (lv' := [(3, .int (0 : Int32)), (2, .ref mA), (1, .ref rA), (0, .ref b)]) C dL_law_17 rfl hl (by decide) rfl (fun ls hl => ?_)
  refine W.widen (k := 146) (n := 9640) (Nat.le_of_ble_eq_true rfl) (Nat.le_of_ble_eq_true rfl) ?_
  refine law_loop (aR := fun k => if k = 0 then rA else u.1) (aM := ad0 mA u2) C hA hz hX hbl hbA hs hL ?_ 513 0 (u.2, fun _ => initS, 0) initM rfl (h0 u.2) _ _ _ 0 rfl hP hD hS (lv_sub hl [3, 2, 1, 0] rfl)
  intro H locs ls hS
  refine x_iconst (v := (1 : Int32)) C dL_law_827 (by decide) ?_
  refine va_forget (fun q hq => by have := hS.2.2 q hq; rw [← hAe] at this; exact this) ?_
  refine W.widen (k := 600000) (n := 7302250) (Nat.le_of_ble_eq_true rfl) (Nat.le_of_ble_eq_true rfl) ?_
  exact lw_ret hx hb hr hlocks dL_law_828
