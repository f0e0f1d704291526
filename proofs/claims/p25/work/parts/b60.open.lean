/-! THE CLAIM OUT OF ONE WALK OF THE LAW'S BODY. Your part is whole_start (and what it stands on); all else here is the same for every law, but numbers. -/
def R_law : String := "RetryStormLaw"
def lw_P (b : Addr) (xs : List Int32) (args : Array Value) (s : State) : Prop := args = #[.ref b] ∧ s.IntsAt b xs ∧ xs.length ≤ 260 ∧ (Jvm.Cond.and given_1 narrow_1).before args s = true
def lw_Q (_ : Array Value) (s : State) (o : Outcome) (t : State) : Prop := o = .returned (some (.int 1)) ∧ Framed s o t [] 600000 7302249
def lw_Z (below : List Frame) (a : Array Value) (s : State) : State → Prop := fun t => ∃ o, t.status = .running ∧ Ended t below o ∧ lw_Q a s o t
/-- the law's own end, with 1 on the stack, nothing written that was there before, its room as the claim has it -/
theorem lw_ret {p : Program} {l : Launch} {e : Env} {s : State} {m : MethodId} {below : List Frame} {meth : Method} {c : Code} {b : Nat} (hx : p.tables.exec = Jvm.exec) (hb : c.code = code) (hr : meth.sig.returnType = ret) (hlocks : meth.locks = false) {pc : Nat} {H : Heap} {ls : Array Slot} (hdg : decode code pc = .ok (.ireturn, 1)) : W p l e room_1 s m #[Value.ref b] below meth c H [] 600000 7302249 (lw_Z below #[Value.ref b] s) (F0 m pc ls [.int 1]) := by
  intro T hT X
  obtain ⟨fs, hret, hrun, hended, hW, hframe⟩ := X.leave (v := some (.int 1)) (hlocks := hlocks) (fun h => by rw [hr] at h; cases h)
  have hmeth' : T.vm.method? m = some meth := X.method'
  refine ⟨T.setFrames fs, ?_, .returned (some (.int 1)), hrun, hended, rfl, ⟨_, rfl⟩, hW, hframe⟩
  jvm_step X.here [X.here.top, hx, hb, hdg, hmeth', hr, ret, narrow_b1]
  (try refine ⟨rfl, ?_⟩); (try refine ⟨rfl, ?_⟩)
  first | (intro acts; rw [hret _ acts rfl rfl rfl]) | rw [hret _ _ rfl rfl rfl]
  exact Steps.refl _
/-- what holds at the law's entry: the machine, the code, the tables' words (any of lw_tbl by 'hts w (by decide +kernel)'), the script of L ints xs at the cell b, what the Statement gives of the start (any of its parts by flat_of_before) -/
def lw_At (p : Program) (s : State) (m : MethodId) (meth : Method) (c : Code) (b L : Nat) (xs : Nat → Int32) : Prop :=
  p.tables.exec = Jvm.exec ∧ c.code = code ∧ meth.sig.returnType = ret ∧ c.maxLocals = 9 ∧ s.vm.findClass R_law = some m.cls ∧ (∀ w ∈ lw_tbl, w.before #[Value.ref b] s = true) ∧ va_X b L xs s s.heap ∧ b < s.heap.size ∧ meth.locks = false ∧ (Jvm.Cond.and given_1 narrow_1).before #[Value.ref b] s = true

/-- the three static tables at the law's start -/
theorem law_ZZ {s : State} {b : Nat} (hts : ∀ w ∈ lw_tbl, w.before #[Value.ref b] s = true) (hgv : (Jvm.Cond.and given_1 narrow_1).before #[Value.ref b] s = true) : ZZ (fun q => s.heap.size ≤ q) s s.heap := by
  have hW : ∀ w ∈ WS, w.before #[Value.ref b] s = true := fun w h => hts w (WS_tbl w h)
  have hg := flat_of_before _ hgv
  have hT_LEAST : ZT "LEAST" leastL (fun q => s.heap.size ≤ q) s s.heap := by
    have harr : (Jvm.Cond.arrayOf (Jvm.Term.static "RetryStorm" "LEAST" "[I") .int).before #[Value.ref b] s = true := hg _ (by decide +kernel)
    have hlen : (Jvm.Cond.eq (Jvm.Term.length (Jvm.Term.static "RetryStorm" "LEAST" "[I")) (Jvm.Term.int (12 : Int32))).before #[Value.ref b] s = true := hg _ (by decide +kernel)
    obtain ⟨t, h1, h2⟩ := va_Tof (tm := Jvm.Term.static "RetryStorm" "LEAST" "[I") (N := 12) (f := tabF leastL) (A := fun q => s.heap.size ≤ q) (by decide) harr (va_eqt hlen) (fun j hj => by
      match j, hj with
      | 0, _ => exact va_eqt (t := Jvm.Term.elem (Jvm.Term.static "RetryStorm" "LEAST" "[I") (Jvm.Term.int (0 : Int32))) (z := 0) (hg _ (by decide +kernel))
      | 1, _ => exact va_eqt (t := Jvm.Term.elem (Jvm.Term.static "RetryStorm" "LEAST" "[I") (Jvm.Term.int (1 : Int32))) (z := 0) (hg _ (by decide +kernel))
      | 2, _ => exact va_eqt (t := Jvm.Term.elem (Jvm.Term.static "RetryStorm" "LEAST" "[I") (Jvm.Term.int (2 : Int32))) (z := 1) (hg _ (by decide +kernel))
      | 3, _ => exact va_eqt (t := Jvm.Term.elem (Jvm.Term.static "RetryStorm" "LEAST" "[I") (Jvm.Term.int (3 : Int32))) (z := 1) (hg _ (by decide +kernel))
      | 4, _ => exact va_eqt (t := Jvm.Term.elem (Jvm.Term.static "RetryStorm" "LEAST" "[I") (Jvm.Term.int (4 : Int32))) (z := 1) (hg _ (by decide +kernel))
      | 5, _ => exact va_eqt (t := Jvm.Term.elem (Jvm.Term.static "RetryStorm" "LEAST" "[I") (Jvm.Term.int (5 : Int32))) (z := 1) (hg _ (by decide +kernel))
      | 6, _ => exact va_eqt (t := Jvm.Term.elem (Jvm.Term.static "RetryStorm" "LEAST" "[I") (Jvm.Term.int (6 : Int32))) (z := 1) (hg _ (by decide +kernel))
      | 7, _ => exact va_eqt (t := Jvm.Term.elem (Jvm.Term.static "RetryStorm" "LEAST" "[I") (Jvm.Term.int (7 : Int32))) (z := 0) (hg _ (by decide +kernel))
      | 8, _ => exact va_eqt (t := Jvm.Term.elem (Jvm.Term.static "RetryStorm" "LEAST" "[I") (Jvm.Term.int (8 : Int32))) (z := 1) (hg _ (by decide +kernel))
      | 9, _ => exact va_eqt (t := Jvm.Term.elem (Jvm.Term.static "RetryStorm" "LEAST" "[I") (Jvm.Term.int (9 : Int32))) (z := 0) (hg _ (by decide +kernel))
      | 10, _ => exact va_eqt (t := Jvm.Term.elem (Jvm.Term.static "RetryStorm" "LEAST" "[I") (Jvm.Term.int (10 : Int32))) (z := 0) (hg _ (by decide +kernel))
      | 11, _ => exact va_eqt (t := Jvm.Term.elem (Jvm.Term.static "RetryStorm" "LEAST" "[I") (Jvm.Term.int (11 : Int32))) (z := 0) (hg _ (by decide +kernel))
      | j + 12, h => exact absurd h (by omega)) (fun a ha => Nat.not_le.mpr ha)
    exact ⟨t, va_Zof (hts _ wl_X5_LEAST) (hW _ wz_X5) h1 (fun a ha => Nat.not_le.mpr ha), h2⟩
  have hT_MOST : ZT "MOST" mostL (fun q => s.heap.size ≤ q) s s.heap := by
    have harr : (Jvm.Cond.arrayOf (Jvm.Term.static "RetryStorm" "MOST" "[I") .int).before #[Value.ref b] s = true := hg _ (by decide +kernel)
    have hlen : (Jvm.Cond.eq (Jvm.Term.length (Jvm.Term.static "RetryStorm" "MOST" "[I")) (Jvm.Term.int (12 : Int32))).before #[Value.ref b] s = true := hg _ (by decide +kernel)
    obtain ⟨t, h1, h2⟩ := va_Tof (tm := Jvm.Term.static "RetryStorm" "MOST" "[I") (N := 12) (f := tabF mostL) (A := fun q => s.heap.size ≤ q) (by decide) harr (va_eqt hlen) (fun j hj => by
      match j, hj with
      | 0, _ => exact va_eqt (t := Jvm.Term.elem (Jvm.Term.static "RetryStorm" "MOST" "[I") (Jvm.Term.int (0 : Int32))) (z := 50) (hg _ (by decide +kernel))
      | 1, _ => exact va_eqt (t := Jvm.Term.elem (Jvm.Term.static "RetryStorm" "MOST" "[I") (Jvm.Term.int (1 : Int32))) (z := 50) (hg _ (by decide +kernel))
      | 2, _ => exact va_eqt (t := Jvm.Term.elem (Jvm.Term.static "RetryStorm" "MOST" "[I") (Jvm.Term.int (2 : Int32))) (z := 60) (hg _ (by decide +kernel))
      | 3, _ => exact va_eqt (t := Jvm.Term.elem (Jvm.Term.static "RetryStorm" "MOST" "[I") (Jvm.Term.int (3 : Int32))) (z := 6) (hg _ (by decide +kernel))
      | 4, _ => exact va_eqt (t := Jvm.Term.elem (Jvm.Term.static "RetryStorm" "MOST" "[I") (Jvm.Term.int (4 : Int32))) (z := 40) (hg _ (by decide +kernel))
      | 5, _ => exact va_eqt (t := Jvm.Term.elem (Jvm.Term.static "RetryStorm" "MOST" "[I") (Jvm.Term.int (5 : Int32))) (z := 16) (hg _ (by decide +kernel))
      | 6, _ => exact va_eqt (t := Jvm.Term.elem (Jvm.Term.static "RetryStorm" "MOST" "[I") (Jvm.Term.int (6 : Int32))) (z := 64) (hg _ (by decide +kernel))
      | 7, _ => exact va_eqt (t := Jvm.Term.elem (Jvm.Term.static "RetryStorm" "MOST" "[I") (Jvm.Term.int (7 : Int32))) (z := 3) (hg _ (by decide +kernel))
      | 8, _ => exact va_eqt (t := Jvm.Term.elem (Jvm.Term.static "RetryStorm" "MOST" "[I") (Jvm.Term.int (8 : Int32))) (z := 12) (hg _ (by decide +kernel))
      | 9, _ => exact va_eqt (t := Jvm.Term.elem (Jvm.Term.static "RetryStorm" "MOST" "[I") (Jvm.Term.int (9 : Int32))) (z := 12) (hg _ (by decide +kernel))
      | 10, _ => exact va_eqt (t := Jvm.Term.elem (Jvm.Term.static "RetryStorm" "MOST" "[I") (Jvm.Term.int (10 : Int32))) (z := 20) (hg _ (by decide +kernel))
      | 11, _ => exact va_eqt (t := Jvm.Term.elem (Jvm.Term.static "RetryStorm" "MOST" "[I") (Jvm.Term.int (11 : Int32))) (z := 10) (hg _ (by decide +kernel))
      | j + 12, h => exact absurd h (by omega)) (fun a ha => Nat.not_le.mpr ha)
    exact ⟨t, va_Zof (hts _ wl_X5_MOST) (hW _ wz_X5) h1 (fun a ha => Nat.not_le.mpr ha), h2⟩
  have hT_AT_FIRST : ZT "AT_FIRST" firstL (fun q => s.heap.size ≤ q) s s.heap := by
    have harr : (Jvm.Cond.arrayOf (Jvm.Term.static "RetryStorm" "AT_FIRST" "[I") .int).before #[Value.ref b] s = true := hg _ (by decide +kernel)
    have hlen : (Jvm.Cond.eq (Jvm.Term.length (Jvm.Term.static "RetryStorm" "AT_FIRST" "[I")) (Jvm.Term.int (12 : Int32))).before #[Value.ref b] s = true := hg _ (by decide +kernel)
    obtain ⟨t, h1, h2⟩ := va_Tof (tm := Jvm.Term.static "RetryStorm" "AT_FIRST" "[I") (N := 12) (f := tabF firstL) (A := fun q => s.heap.size ≤ q) (by decide) harr (va_eqt hlen) (fun j hj => by
      match j, hj with
      | 0, _ => exact va_eqt (t := Jvm.Term.elem (Jvm.Term.static "RetryStorm" "AT_FIRST" "[I") (Jvm.Term.int (0 : Int32))) (z := 0) (hg _ (by decide +kernel))
      | 1, _ => exact va_eqt (t := Jvm.Term.elem (Jvm.Term.static "RetryStorm" "AT_FIRST" "[I") (Jvm.Term.int (1 : Int32))) (z := 0) (hg _ (by decide +kernel))
      | 2, _ => exact va_eqt (t := Jvm.Term.elem (Jvm.Term.static "RetryStorm" "AT_FIRST" "[I") (Jvm.Term.int (2 : Int32))) (z := 20) (hg _ (by decide +kernel))
      | 3, _ => exact va_eqt (t := Jvm.Term.elem (Jvm.Term.static "RetryStorm" "AT_FIRST" "[I") (Jvm.Term.int (3 : Int32))) (z := 3) (hg _ (by decide +kernel))
      | 4, _ => exact va_eqt (t := Jvm.Term.elem (Jvm.Term.static "RetryStorm" "AT_FIRST" "[I") (Jvm.Term.int (4 : Int32))) (z := 10) (hg _ (by decide +kernel))
      | 5, _ => exact va_eqt (t := Jvm.Term.elem (Jvm.Term.static "RetryStorm" "AT_FIRST" "[I") (Jvm.Term.int (5 : Int32))) (z := 2) (hg _ (by decide +kernel))
      | 6, _ => exact va_eqt (t := Jvm.Term.elem (Jvm.Term.static "RetryStorm" "AT_FIRST" "[I") (Jvm.Term.int (6 : Int32))) (z := 16) (hg _ (by decide +kernel))
      | 7, _ => exact va_eqt (t := Jvm.Term.elem (Jvm.Term.static "RetryStorm" "AT_FIRST" "[I") (Jvm.Term.int (7 : Int32))) (z := 0) (hg _ (by decide +kernel))
      | 8, _ => exact va_eqt (t := Jvm.Term.elem (Jvm.Term.static "RetryStorm" "AT_FIRST" "[I") (Jvm.Term.int (8 : Int32))) (z := 2) (hg _ (by decide +kernel))
      | 9, _ => exact va_eqt (t := Jvm.Term.elem (Jvm.Term.static "RetryStorm" "AT_FIRST" "[I") (Jvm.Term.int (9 : Int32))) (z := 0) (hg _ (by decide +kernel))
      | 10, _ => exact va_eqt (t := Jvm.Term.elem (Jvm.Term.static "RetryStorm" "AT_FIRST" "[I") (Jvm.Term.int (10 : Int32))) (z := 20) (hg _ (by decide +kernel))
      | 11, _ => exact va_eqt (t := Jvm.Term.elem (Jvm.Term.static "RetryStorm" "AT_FIRST" "[I") (Jvm.Term.int (11 : Int32))) (z := 10) (hg _ (by decide +kernel))
      | j + 12, h => exact absurd h (by omega)) (fun a ha => Nat.not_le.mpr ha)
    exact ⟨t, va_Zof (hts _ wl_X5_AT_FIRST) (hW _ wz_X5) h1 (fun a ha => Nat.not_le.mpr ha), h2⟩
  exact ⟨hT_LEAST, hT_MOST, hT_AT_FIRST⟩
theorem law_K {s : State} {b : Nat} (hts : ∀ w ∈ lw_tbl, w.before #[Value.ref b] s = true) : ∃ (D : va_G) (cI cS : ClassId), va_K D vwCl (tyL cI cS) s := by
  have hW : ∀ w ∈ WS, w.before #[Value.ref b] s = true := fun w h => hts w (WS_tbl w h)
  obtain ⟨c0, iS0, h0⟩ := u_known (C := RX2) (T := TX2) (N := 18) (n := 18) hW inX2 (hW _ wa_X2)
  obtain ⟨c1, iS1, h1⟩ := u_known (C := RX3) (T := TX3) (N := 3) (n := 3) hW inX3 (hW _ wa_X3)
  obtain ⟨c2, iS2, h2⟩ := u_known (C := RX5) (T := TX5) (N := 4) (n := 4) hW inX5 (hW _ wa_X5)
  obtain ⟨cI, kI, compI, a1, a2, a3⟩ := Cond.arrayClass_spec (hW _ w_arrI)
  obtain ⟨compS, cS, kS, b1, -, b3, b4, b5⟩ := Cond.arrayOver_spec (hts _ w_arrS)
  refine ⟨(fun k => [c0, c1, c2].getD k 0, fun k => [iS0, iS1, iS2].getD k iS0), cI, cS, ?_, ?_⟩
  · intro k q hq
    match k, hq with
    | 0, hq => cases hq; exact h0
    | 1, hq => cases hq; exact h1
    | 2, hq => cases hq; exact h2
    | k + 3, hq => simp [vwCl] at hq
  · intro k q hq
    match k, hq with
    | 0, hq => cases hq; exact ⟨fun n z => ⟨(fun k h => by cases h), kI, a2, compI, a3⟩, a1⟩
    | 1, hq => cases hq; exact ⟨fun n z => ⟨(fun k h => by cases h), kS, b3, compS, b4⟩, kS, compS, b3, b4, b1, b5⟩
    | k + 2, hq => simp [tyL] at hq
set_option maxHeartbeats 4000000 in
set_option maxRecDepth 100000 in
/-- the law from its entry -/
theorem law_open {p : Program} {e : Env} {s : State} {m : MethodId} {below : List Frame} {meth : Method} {c : Code} (l : Launch) {b L : Nat} {xs : Nat → Int32} (hL : L ≤ 260) (C0 : lw_At p s m meth c b L xs) : W p l e room_1 s m #[Value.ref b] below meth c s.heap [] 0 0 (lw_Z below #[Value.ref b] s) (entryFrame m ([Value.ref b] : List Value).toArray 9) := by
  obtain ⟨hx, hb, hr, hml, hown, hts, hX, hbl, hlocks, hgv⟩ := C0
  have hW : ∀ w ∈ WS, w.before #[Value.ref b] s = true := fun w h => hts w (WS_tbl w h)
  have hz := law_ZZ hts hgv
  obtain ⟨D, cI, cS, hK⟩ := law_K hts
  have hN : NN s := ⟨va_Nw.of rfl (hts _ wf_X2_54), va_AO.of (hts _ w_arrS)⟩
  have C : Cx p s m #[Value.ref b] meth c RL cL_law 9 ret D (tyL cI cS) := ⟨hx, hb, hml, hown, hW, hK, hr, hlocks⟩
  have hA : ∀ q : Nat, s.heap.size ≤ q → (fun q : Nat => s.heap.size ≤ q) q := fun _ h => h
  have hbA : ¬ (fun q : Nat => s.heap.size ≤ q) b := Nat.not_le.mpr hbl
  have hS : va_S (fun q : Nat => s.heap.size ≤ q) s.heap s.heap [] := va_S.rf
  have hP : va_P D vwCl [] s.heap := fun k q h => by simp at h
  have hD : va_D (fun q : Nat => s.heap.size ≤ q) [] := ⟨fun i j p q h => by simp at h, fun k q h => by simp at h⟩
  have hl := lv_entry ([.ref b]) (n := 9) (Nat.le_of_ble_eq_true rfl)
  rw [lg_entry_eq]
  generalize (lg_sl ([.ref b]) ++ List.replicate (9 - (lg_sl ([.ref b])).length) Slot.unset).toArray = ls at hl ⊢
  generalize hAe : (fun q : Nat => s.heap.size ≤ q) = A at hz hA hbA hS hD
  have hL31 : L < 2 ^ 31 := by omega
  obtain ⟨S0, sv, a, h36, -, hSv, hsets⟩ := sets_1 (xs := xs) hL31 initS
  obtain ⟨a7, h37, a7l⟩ := cell_ok hL31 xs (k := 37) (by omega)
  obtain ⟨a8, h38, a8l⟩ := cell_ok hL31 xs (k := 38) (by omega)
  obtain ⟨a9, h39, a9l⟩ := cell_ok hL31 xs (k := 39) (by omega)
  have e37 : (3 : Int32) + (nI a7 - nI a7 / (14 : Int32) * (14 : Int32)) = nI (3 + a7 % 14) := by
    rw [show nI a7 - nI a7 / (14 : Int32) * (14 : Int32) = nI (a7 % 14) from rm (d := 14) a7l (by omega) (by omega)]
    exact nI_add 3 _
  have e38 : (1 : Int32) + (nI a8 - nI a8 / (15 : Int32) * (15 : Int32)) = nI (1 + a8 % 15) := by
    rw [show nI a8 - nI a8 / (15 : Int32) * (15 : Int32) = nI (a8 % 15) from rm (d := 15) a8l (by omega) (by omega)]
    exact nI_add 1 _
  have e39 : nI a9 - nI a9 / (4 : Int32) * (4 : Int32) = nI (a9 % 4) := rm (d := 4) a9l (by omega) (by omega)
  have n7 : 3 + a7 % 14 ≤ 16 ∧ 3 ≤ 3 + a7 % 14 := by omega
  have n8 : 1 + a8 % 15 ≤ 15 ∧ 1 ≤ 1 + a8 % 15 := by omega
  have n9 : a9 % 4 ≤ 3 := by omega
  generalize 3 + a7 % 14 = N at e37 n7
  generalize 1 + a8 % 15 = k8 at e38 n8
  generalize a9 % 4 = k9 at e39 n9
  refine x_new C (ci := 2) (fs := [.null, .null, .null, .int 0]) inX5 tyX5 tyX5_ok wk_L_20 wa_X5 wz_X5 hP hD hS hA rfl (fun j hj => by rcases (show j = 0 ∨ j = 1 ∨ j = 2 ∨ j = 3 by omega) with rfl | rfl | rfl | rfl <;> rfl) (Nat.le_of_ble_eq_true rfl) (Nat.le_of_ble_eq_true rfl) dL_law_0 (fun rA H hP hD hS => ?_)
  refine x_dup C dL_law_3 rfl ?_
  refine x_callI (n := 0) (wr := []) (wc := [(rA, .inr (2, [.null, .null, .null, .int 0]))]) (As := []) C (kX5_init l D cI cS rA) hz hN wm_L_78 wi_X5_init wz_X5 wc_X5_init (by decide +kernel) rfl hP hD hS hA hl.1 dL_law_4 rfl (Nat.le_of_ble_eq_true rfl) ⟨Nat.le_of_ble_eq_true rfl, Nat.le_of_ble_eq_true rfl⟩ ⟨Nat.le_of_ble_eq_true rfl, Nat.le_of_ble_eq_true rfl⟩ (fun u H locs hP hD hS => ?_)
  refine x_astore_n (lv' := [(1, .ref rA), (0, .ref b)]) C dL_law_7 rfl hl (by decide) rfl (fun ls hl => ?_)
  refine x_new C (ci := 2) (fs := [.null, .null, .null, .int 0]) inX5 tyX5 tyX5_ok wk_L_20 wa_X5 wz_X5 hP hD hS hA rfl (fun j hj => by rcases (show j = 0 ∨ j = 1 ∨ j = 2 ∨ j = 3 by omega) with rfl | rfl | rfl | rfl <;> rfl) (Nat.le_of_ble_eq_true rfl) (Nat.le_of_ble_eq_true rfl) dL_law_8 (fun rU H hP hD hS => ?_)
  refine x_dup C dL_law_11 rfl ?_
  refine x_callI (n := 0) (wr := bornR rA u cI cS) (wc := [(rU, .inr (2, [.null, .null, .null, .int 0]))]) (As := []) C (kX5_init l D cI cS rU) hz hN wm_L_78 wi_X5_init wz_X5 wc_X5_init (by decide +kernel) rfl hP hD hS hA hl.1 dL_law_12 rfl (Nat.le_of_ble_eq_true rfl) ⟨Nat.le_of_ble_eq_true rfl, Nat.le_of_ble_eq_true rfl⟩ ⟨Nat.le_of_ble_eq_true rfl, Nat.le_of_ble_eq_true rfl⟩ (fun u2 H locs hP hD hS => ?_)
  refine x_astore_n (lv' := [(2, .ref rU), (1, .ref rA), (0, .ref b)]) C dL_law_15 rfl hl (by decide) rfl (fun ls hl => ?_)
  obtain ⟨X, sx, x1, x2⟩ := hsets (u.2, fun _ => initS, 0) (J.init u.2) rfl
  obtain ⟨Y, sy, y1, y2⟩ := hsets (u2.2, fun _ => initS, 0) (J.init u2.2) rfl
  refine W.widen (k := 1000) (n := 20000) (Nat.le_of_ble_eq_true rfl) (Nat.le_of_ble_eq_true rfl) ?_
  refine law_sets (aR := fun k => if k = 0 then rA else u.1) (aU := fun k => if k = 0 then rU else u2.1) C hA hz ⟨hX, hbA⟩ sx sy h36 hSv h37 e37 ?_ _ _ _ hP hD hS (lv_sub hl [2, 1, 0] rfl)
  intro H locs ls hP hD hS hl
  refine law_loop (aR := fun k => if k = 0 then rA else u.1) (aU := fun k => if k = 0 then rU else u2.1) (Y := Y) (S0 := S0) C hA hz ⟨hX, hbA⟩ n7.1 h36 hSv ?_ N 0 X 0 (by omega) x2 x1 (by rw [x1, Int32.sub_self]) _ _ _ hP hD hS (lv_sub hl [5, 6, 7, 4, 3, 2, 1, 0] rfl)
  clear hS hP hD hl ls H locs
  intro X dn hI hp hd H locs ls hP hD hS hl
  obtain ⟨Y', r1, r2, r3⟩ := y2.run (k := N) (by omega) (by omega) (by omega) (show pS N (Y.2.1 0) (X.2.1 0) by rw [y1]; exact hp)
  rw [y1, ← hd] at r1
  obtain ⟨va, oa⟩ := hI.amp (by omega)
  obtain ⟨-, n6, -⟩ := hI.sizes (by omega)
  obtain ⟨Y2, hbe⟩ := wouldBe_1 (n := 45 + N) (k := k8) (d := k9) (by omega) r3 n8.2 n8.1 n9
  refine W.widen (k := 1100) (n := 21000) (by omega) (by omega) ?_
  refine law_same C hA hz ⟨hX, hbA⟩ r1 (show fX5_told (7 : Int32) Y' = some ((X.2.1 0).2 15) by rw [told_7, r2]) told_7 (show fX5_told (8 : Int32) Y' = some ((X.2.1 0).2 16) by rw [told_8, r2]) told_8 (show fX5_told (1 : Int32) Y' = some (ssize 5 (X.2.1 0)) by rw [told_1, r2]) told_1 ((amp_eq r2).trans oa) oa ?_ _ _ _ hP hD hS (lv_sub hl [0, 1, 2, 5, 6] rfl)
  clear hS hP hD hl ls H locs
  intro H locs ls hP hD hS hl
  refine law_counts C hA hz ⟨hX, hbA⟩ n6 r2 ?_ 6 0 (by omega) _ _ _ hP hD hS hl
  clear hS hP hD hl ls H locs
  intro H locs ls hP hD hS hl
  refine law_end C hA hz ⟨hX, hbA⟩ h38 e38 h39 e39 hbe run_0 run_101 ?_ _ _ _ hP hD hS hl
  clear hS hP hD hl ls H locs
  intro H locs ls hS
  refine va_forget (fun q hq => by have := hS.2.2 q hq; rw [← hAe] at this; exact this) ?_
  refine W.widen (k := 600000) (n := 7302249) (Nat.le_of_ble_eq_true rfl) (Nat.le_of_ble_eq_true rfl) ?_
  exact lw_ret hx hb hr hlocks dL_law_336
