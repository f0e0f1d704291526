/-! constructors: contracts that make cells -/
def NN (U : State) : Prop := va_Nw (.fieldLinkNest "RetryStorm$State" 54 "RetryStorm" "AT_FIRST" "[I" "RetryStorm") U ∧ va_AO "RetryStorm$State" U
theorem NN.warm {s U : State} (hW : s.WarmedH U.vm) (h : NN s) : NN U := ⟨h.1.warmF hW, h.2.moved hW.alike⟩
theorem NN.same {u U : State} (hv : u.vm = U.vm) (h : NN u) : NN U := ⟨va_Nw.same rfl hv h.1, by have := h.2; exact va_AO.moved (by rw [hv]; exact Vm.Alike.refl _) this⟩
abbrev rmN (d mc ms : Nat) : Room := { frames := d, cells := mc, slots := ms, locals := 40 * d }
def QN (D : va_G) (ty : List (ClassId × FieldType)) (w : va_W) (sz : Nat) {σ : Type} (wf : σ → va_W) : Array Value → State → Outcome → State → Prop := fun _ st oc t => oc = .returned none ∧ (∃ u, cQ D ty w (wf u) sz t) ∧ va_F (va_A w sz) st t
def McN (l : Launch) (D : va_G) (ty : List (ClassId × FieldType)) (y : MethodName) (cc : ByteArray) (nL : Nat) (d : Nat) (as : List Value) (w : va_W) (mc ms : Nat) {σ : Type} (wf : σ → va_W) : Prop :=
  ∀ sz : Nat, Met l y (.code y cc nL none :: WS) (rmN d mc ms) (va_Pc as (fun U => cP D ty true w sz U ∧ NN U)) (QN D ty w sz wf) mc ms (va_A w sz)
section XN
variable {p : Program} {l : Launch} {e : Env} {R : Room} {s : State} {m : MethodId} {args : Array Value} {below : List Frame} {meth : Method} {c : Code} {H : Heap} {locs : List Loc} {cells slots : Nat} {Q : State → Prop} {own : String} {cc : ByteArray} {nL : Nat} {ret : Option FieldType} {D : va_G} {ty : List (ClassId × FieldType)} {pc index : Nat} {ls : Array Slot} {rest : List Value} {A : Nat → Prop} {H0 : Heap} {ws : va_W} {y : MethodName} {d mc ms maxL n : Nat} {bytes : ByteArray}
theorem McN_of {as : List Value} {w : va_W} {σ : Type} {wf : σ → va_W} (own : String) (hy : plainFor y = true) (hown : y.cls = own) (hwc : Cond.code y cc nL none ∈ WS) (hlen : (lg_sl as).length ≤ nL)
    (body : ∀ (p : Program) (e : Env) (s : State) (m : MethodId) (args : Array Value) (below : List Frame) (meth : Method) (c : Code) (A : Nat → Prop) (Q : State → Prop) (ls : Array Slot),
      Cx p s m args meth c own cc nL none D ty → meth.name = y.name → (∀ q, s.heap.size ≤ q → A q) → ZZ A s s.heap → NN s → va_P D vwCl w s.heap → va_D A w → va_S A s.heap s.heap [] → lv_has ls nL (lv_args 0 as) →
      (∀ {H : Heap} {locs : List Loc} {pc : Nat} {ls : Array Slot} (u : σ), decode cc pc = .ok (.return_, 1) → va_P D vwCl (wf u) H → va_D A (wf u) → va_S A s.heap H locs → W p l e (rmN d mc ms) s m args below meth c H locs mc ms Q (F0 m pc ls [])) →
      W p l e (rmN d mc ms) s m args below meth c s.heap [] 0 0 Q (F0 m 0 ls [])) : McN l D ty y cc nL d as w mc ms wf := by
  intro sz
  refine Met.ofWF (cc := cc) (maxL := nL) (ret := none) hy rfl ?_
  intro p e s m args below meth c s₁ B hml hv
  obtain ⟨rfl, ⟨hsz, hP, hK, hD0, hz⟩, hN⟩ := hv
  have hts := atoms_spec (ws := .code y cc nL none :: WS) B.pre
  have hfc : s.vm.findClass own = some m.cls := by rw [← hown]; exact findClass_of_methodNamed B.named
  subst hsz
  have hD := hD0.self (sz := s.heap.size)
  have hl := lv_entry as (n := nL) hlen
  rw [lg_entry_eq]
  have C : Cx p s m as.toArray meth c own cc nL none D ty := ⟨B.exec, B.bytes, hml, hfc, fun w0 h0 => hts _ (List.mem_cons_of_mem _ h0), hK, B.returns, B.notSynchronized⟩
  refine body p e s m as.toArray below meth c (va_A w s.heap.size) _ _ C (name_of_methodNamed B.named B.method).1 (fun q h => Or.inr h) (hz rfl) hN hP hD va_S.rf hl ?_
  intro H locs pc ls u hdg hP1 hD1 hS1
  exact W.vret (hlocks := C.2.2.2.2.2.2.2) C.1 C.2.1 C.2.2.2.2.2.2.1 (fun t ht hW => ⟨rfl, ⟨u, by rw [ht]; exact hP1, va_K.moved hW.alike hK, hD1⟩, hS1.F ht⟩) hS1.2.2 hdg
theorem x_obj (C : Cx p s m args meth c own cc nL ret D ty) {idx a : Nat} (hw1 : Cond.methodLink own idx Lib.objectInit ∈ WS) (hl : ls.size = nL) (hdg : decode cc pc = .ok (.invokespecial idx, 3)) (hfr : 1 ≤ R.frames) (hlo : (rest.map fun v => v.category).sum + 12 ≤ R.locals)
    (kk : W p l e R s m args below meth c H locs cells slots Q (F0 m (pc + 3) ls rest)) : W p l e R s m args below meth c H locs cells slots Q (F0 m pc ls (.ref a :: rest)) := by
  refine W.objInit C.1 C.2.1 C.2.2.2.1 (C.2.2.2.2.1 _ hw1) (C.2.2.2.2.1 _ wi__java_lang_Object_init___V) (C.2.2.2.2.1 _ wc__java_lang_Object__init_) rfl (hl.trans C.2.2.1.symm) rfl hdg hfr ?_ kk
  show 2 * 0 + _ + 12 ≤ _
  omega
theorem x_putF (C : Cx p s m args meth c own cc nL ret D ty) (hnm0 : meth.name = "<init>") {Cn : String} {T : u_T} {N ci a : Nat} {fs : List Value} {v : Value} {ft : FieldType} {ws' : va_W} (hin : ∀ w ∈ u_ws Cn T N, w ∈ WS) (t0 : Nat → FieldType) (ht0 : ∀ k, k < N → parseFieldDescriptor (T k).2.2.1 = some (t0 k)) (hnm : ∀ a, a < N → ∀ b, b < N → a ≠ b → (T a).2.1 ≠ (T b).2.1) (hP : va_P D vwCl ws H) (hD : va_D A ws) (hS : va_S A H0 H locs) (q0 : Nat) (he : ws[q0]? = some (a, .inr (ci, fs))) (hc : vwCl[ci]? = some (Cn, T, N)) (k : Nat) (hk : k < N) (hw : Cond.fieldLink own index (T k).1 (T k).2.1 (T k).2.2.1 ∈ WS) (hfin : (T k).2.2.2 = true) (hdecl : (T k).1 = own) (hd : parseFieldDescriptor (T k).2.2.1 = some ft) (hn : narrow ft v = v) (hfit : fits ft v = true) (hl : k < fs.length) (hset : ws.set q0 (a, .inr (ci, fs.set k v)) = ws') (hdg : decode cc pc = .ok (.putfield index, 3))
    (kk : ∀ (H1 : Heap) (locs1 : List Loc), va_P D vwCl ws' H1 → va_D A ws' → va_S A H0 H1 locs1 → W p l e R s m args below meth c H1 locs1 cells slots Q (F0 m (pc + 3) ls rest)) : W p l e R s m args below meth c H locs cells slots Q (F0 m pc ls (v :: .ref a :: rest)) := by
  subst hset
  exact va_putF C.1 C.2.1 C.2.2.2.2.1 hin t0 ht0 hnm C.2.2.2.1 C.2.2.2.2.2.1 hP hD hS q0 he hc k hk (C.2.2.2.2.1 _ hw) (fun _ h => h) hfin hnm0 hdecl hd hn hfit hl hdg kk
theorem x_new (C : Cx p s m args meth c own cc nL ret D ty) {Cn : String} {T : u_T} {N ci : Nat} {fs : List Value} (hin : ∀ w ∈ u_ws Cn T N, w ∈ WS) (t0 : Nat → FieldType) (ht0 : ∀ k, k < N → parseFieldDescriptor (T k).2.2.1 = some (t0 k)) (hw1 : Cond.classLink own index Cn ∈ WS) (hw2 : Cond.instantiable Cn N ∈ WS) (hw3 : Cond.initialized Cn ∈ WS) (hP : va_P D vwCl ws H) (hD : va_D A ws) (hS : va_S A H0 H locs) (hA : ∀ q, H0.size ≤ q → A q) (hc : vwCl[ci]? = some (Cn, T, N)) (hfs : ∀ j, j < N → defaultValue (t0 j) = vp_V fs j) (hcells : cells + 1 ≤ R.cells) (hslots : slots + N ≤ R.slots) (hdg : decode cc pc = .ok (.new index, 3))
    (kk : ∀ (q : Nat) (H1 : Heap), va_P D vwCl (ws ++ [(q, .inr (ci, fs))]) H1 → va_D A (ws ++ [(q, .inr (ci, fs))]) → va_S A H0 H1 locs → W p l e R s m args below meth c H1 locs (cells + 1) (slots + N) Q (F0 m (pc + 3) ls (.ref q :: rest))) : W p l e R s m args below meth c H locs cells slots Q (F0 m pc ls rest) :=
  va_new C.1 C.2.1 C.2.2.2.2.1 hin t0 ht0 C.2.2.2.1 (C.2.2.2.2.1 _ hw1) (C.2.2.2.2.1 _ hw2) (C.2.2.2.2.1 _ hw3) C.2.2.2.2.2.1 hP hD hS hA hc hfs hcells hslots hdg kk
theorem x_newI {cI cS : ClassId} (C : Cx p s m args meth c own cc nL ret D (tyL cI cS)) {k : Int32} {N : Nat} (hP : va_P D vwCl ws H) (hD : va_D A ws) (hS : va_S A H0 H locs) (hA : ∀ q, H0.size ≤ q → A q) (hn : ¬ k < 0) (hN : k.toNatClampNeg = N) (hb : N ≤ 10000) (hcells : cells + 1 ≤ R.cells) (hslots : slots + N ≤ R.slots) (hdg : decode cc pc = .ok (.newarray .int, 2))
    (kk : ∀ (q : Nat) (H1 : Heap), va_P D vwCl (ws ++ [(q, .inl (cI, N, .inl (fun _ => 0)))]) H1 → va_D A (ws ++ [(q, .inl (cI, N, .inl (fun _ => 0)))]) → va_S A H0 H1 locs → W p l e R s m args below meth c H1 locs (cells + 1) (slots + N) Q (F0 m (pc + 2) ls (.ref q :: rest))) : W p l e R s m args below meth c H locs cells slots Q (F0 m pc ls (.int k :: rest)) := by
  refine va_newa (atype := .int) (ty := .int) C.1 C.2.1 (C.2.2.2.2.1 _ w_arrI) rfl C.2.2.2.2.2.1 hP hD hS hA (a0 := (N, .inl (fun _ => 0))) (fun cA => vp_cell_i cA N _) hn hN (by show N * 4 ≤ _; omega) hcells hslots hdg ?_
  intro q cA H1 hK1 hP1 hD1 hS1
  have e1 : s.vm.findClass ("[" ++ FieldType.int.toString) = some cI := (hK1.2 0 (cI, .int) rfl).2
  have e2 : s.vm.findClass ("[" ++ FieldType.int.toString) = some cA := (hK1.2 2 (cA, .int) rfl).2
  obtain rfl : cI = cA := Option.some.inj (e1.symm.trans e2)
  exact kk q H1 hP1 hD1 hS1
theorem x_newS {cI cS : ClassId} (C : Cx p s m args meth c own cc nL ret D (tyL cI cS)) (hN0 : NN s) {k : Int32} {N : Nat} (hw : Cond.classLink own index "RetryStorm$State" ∈ WS) (hP : va_P D vwCl ws H) (hD : va_D A ws) (hS : va_S A H0 H locs) (hA : ∀ q, H0.size ≤ q → A q) (hn : ¬ k < 0) (hN : k.toNatClampNeg = N) (hb : N ≤ 10000) (hcells : cells + 1 ≤ R.cells) (hslots : slots + N ≤ R.slots) (hdg : decode cc pc = .ok (.anewarray index, 3))
    (kk : ∀ (q : Nat) (H1 : Heap), va_P D vwCl (ws ++ [(q, .inl (cS, N, .inr (.inr (.inr (.inr (fun _ => none))))))]) H1 → va_D A (ws ++ [(q, .inl (cS, N, .inr (.inr (.inr (.inr (fun _ => none))))))]) → va_S A H0 H1 locs → W p l e R s m args below meth c H1 locs (cells + 1) (slots + N) Q (F0 m (pc + 3) ls (.ref q :: rest))) : W p l e R s m args below meth c H locs cells slots Q (F0 m pc ls (.int k :: rest)) := by
  refine va_newq C.1 C.2.1 C.2.2.2.1 (C.2.2.2.2.1 _ hw) hN0.2 C.2.2.2.2.2.1 hP hD hS hA hn hN (by omega) hcells hslots hdg ?_
  intro q cA H1 hK1 hP1 hD1 hS1
  obtain ⟨kA, comp, -, -, -, e1⟩ := (hK1.2 1 (cS, .object "RetryStorm$State") rfl).2
  obtain ⟨kA2, comp2, -, -, -, e2⟩ := (hK1.2 2 (cA, .object "RetryStorm$State") rfl).2
  obtain rfl : cS = cA := Option.some.inj (e1.symm.trans e2)
  exact kk q H1 hP1 hD1 hS1
theorem x_getsN (C : Cx p s m args meth c own cc nL ret D ty) {n host : String} {a : Nat} (hZ : va_Z "RetryStorm" n "[I" (.ref a) A s s.heap) (hS : va_S A s.heap H locs) (hw : va_Nw (.fieldLinkNest own index "RetryStorm" n "[I" host) s) (hdg : decode cc pc = .ok (.getstatic index, 3))
    (kk : W p l e R s m args below meth c H locs cells slots Q (F0 m (pc + 3) ls (.ref a :: rest))) : W p l e R s m args below meth c H locs cells slots Q (F0 m pc ls rest) :=
  va_getsN C.1 C.2.1 hZ hS C.2.2.2.1 (va_Nw.use (A := args) rfl hw) (fun _ h => h) hdg kk
/-- a call of a constructor: its new object and what it makes stand at the world's end -/
theorem x_callI (C : Cx p s m args meth c own cc nL ret D ty) {wr wc : va_W} {σ : Type} {wf : σ → va_W} {As : List Value} {b : Addr} {st : List Value} (hM : McN l D ty y bytes maxL d (.ref b :: As) wc mc ms wf) (hz : ZZ A s s.heap) (hN : NN s)
    (hw1 : Cond.methodLink own index y ∈ WS) (hw2 : Cond.instanceMethod y ∈ WS) (hw4 : Cond.initialized y.cls ∈ WS) (hw5 : Cond.code y bytes maxL none ∈ WS)
    (hd : y.name = "<init>" ∧ y.cls ≠ "java/lang/invoke/MethodHandle" ∧ y.cls ≠ "java/lang/invoke/VarHandle" ∧ (parseMethodDescriptor y.desc).map (fun d => d.parameters.length) = some n) (hn : As.length = n)
    (hP : va_P D vwCl (wr ++ wc) H) (hD : va_D A (wr ++ wc)) (hS : va_S A s.heap H locs) (hA : ∀ q, s.heap.size ≤ q → A q)
    (hl : ls.size = nL) (hdg : decode cc pc = .ok (.invokespecial index, 3)) (hst : st = As.reverse ++ .ref b :: rest) (hcat : (rest.map fun v => v.category).sum ≤ 8)
    (hR : d + 1 ≤ R.frames ∧ 8 + (maxL + 11) + 40 * d ≤ R.locals) (hf : cells + mc ≤ R.cells ∧ slots + ms ≤ R.slots)
    (kk : ∀ (u : σ) (H1 : Heap) (locs1 : List Loc), va_P D vwCl (wr ++ wf u) H1 → va_D A (wr ++ wf u) → va_S A s.heap H1 locs1 → W p l e R s m args below meth c H1 locs1 (cells + mc) (slots + ms) Q (F0 m (pc + 3) ls rest)) : W p l e R s m args below meth c H locs cells slots Q (F0 m pc ls st) := by
  subst hst
  have hW := C.2.2.2.2.1
  have hPc := (va_P_app.mp hP).2
  have hPr := (va_P_app.mp hP).1
  have hD' := va_D_nd.mp hD
  rw [List.map_append] at hD'
  have hnd := List.nodup_append.mp hD'.1
  have hDc : va_D A wc := va_D_nd.mpr ⟨hnd.2.1, fun q hq => hD'.2 q (List.mem_append_right _ hq)⟩
  have hF := x_free hDc hS hA
  have cb : CallB R s args own index y bytes maxL none (.code y bytes maxL none :: WS) (rmN d mc ms) mc ms n := by
    refine ⟨rfl, rfl, hR.1, hR.2, fun w0 h0 a' U hU => ?_, List.mem_cons_self, hW _ hw5, hW _ hw4, ⟨hd.2.1, hd.2.2.1⟩, fun sig h => ?_, hW _ hw1⟩
    · have h1 : w0 ∈ WS := by
        rcases List.mem_cons.mp h0 with rfl | h
        · exact hw5
        · exact h
      exact word_at hU (WS_good _ h1) (hW _ h1)
    · have h2 := hd.2.2.2
      rw [h] at h2
      exact (Option.some.inj h2).symm
  have hbl : FrameBlind (va_Pc (.ref b :: As) (fun U => cP D ty true wc H.size U ∧ NN U)) := by
    intro a U g mk q
    obtain ⟨q0, ⟨q1, qP, qK, qD, qz⟩, qN⟩ := q
    exact ⟨q0, ⟨q1, qP, va_K.moved (u := U) (U := U.calling g mk a) (Vm.Alike.refl U.vm) qK, qD, fun h => ZZ.moved (u := U) (U := U.calling g mk a) (Vm.Alike.refl U.vm) (qz h)⟩, NN.same (u := U) (U := U.calling g mk a) rfl qN⟩
  have hr := va_runI (g := F0 m pc ls (As.reverse ++ .ref b :: rest)) (p := p) (l := l) (e := e) (R := R) (s := s) (m := m) (args := args) (below := below) (meth := meth) (c := c) (H := H) (locs := locs) (cells := cells) (slots := slots) (cc := cc) (nL := nL) (Ts := WS) (own := own) ⟨C.1, C.2.1, C.2.2.1, C.2.2.2.1, C.2.2.2.2.1⟩ (hM H.size) ⟨cb, hd.1, hW _ hw2⟩
    ⟨hbl, fun U hU hWm => ⟨rfl, x_pre C (fun _ => hz) hPc hDc hS hA U hU hWm, hN.warm hWm⟩⟩ rfl hn hl rfl (lv_room hcat) hdg hf
  intro T hT X
  obtain ⟨v', st₀, t, T', L, h0, X', hL, e1, e2, ⟨hv, ⟨u, qP, -, qD⟩, hzz, hk⟩, stp⟩ := hr T hT X
  obtain rfl : v' = none := by injection hv
  rw [h0] at hzz hk
  have hnewD := va_D_nd.mp qD
  have hP1 : va_P D vwCl (wr ++ wf u) T'.heap := by
    refine va_P_app.mpr ⟨va_P_mem.mpr fun q hq => ?_, by rw [e1]; exact qP⟩
    have ha := va_P_mem.mp hPr q hq
    refine ha.kept ?_
    rw [e1]
    refine hk q.1 ha.lt fun z => ?_
    rcases va_A_mem.mp z with z | z
    · exact hnd.2.2 q.1 (List.mem_map.mpr ⟨q, hq, rfl⟩) q.1 z rfl
    · have := ha.lt; omega
  have hD1 : va_D A (wr ++ wf u) := by
    refine va_D_nd.mpr ⟨?_, fun q hq => ?_⟩
    · rw [List.map_append]
      refine List.nodup_append.mpr ⟨hnd.1, hnewD.1, fun a ha b hb hab => ?_⟩
      subst hab
      obtain ⟨q, hq, rfl⟩ := List.mem_map.mp ha
      obtain ⟨q2, hq2, e3⟩ := List.mem_map.mp hb
      have h3 := hnewD.2 q2 hq2
      rw [e3] at h3
      rcases va_A_mem.mp h3 with z | z
      · exact hnd.2.2 q.1 ha q.1 z rfl
      · have := (va_P_mem.mp hPr q hq).lt; omega
    · rcases List.mem_append.mp hq with hq | hq
      · exact hD'.2 q (List.mem_append_left _ hq)
      · exact hF _ (hnewD.2 q hq)
  obtain ⟨t2, a1, b1⟩ := kk u T'.heap (locs ++ L) hP1 hD1
    ⟨Nat.le_trans hS.1 (by rw [e1]; exact hzz), fun q h1 h2 => by rw [e1, hk q (Nat.lt_of_lt_of_le h1 hS.1) (fun z => h2 (hF q z))]; exact hS.2.1 q h1 h2, fun q hq => by
      rcases List.mem_append.mp hq with h | h
      · exact hS.2.2 q h
      · exact hF _ (hL q h)⟩ T' rfl X'
  exact ⟨t2, stp t2 a1, b1⟩
end XN

theorem dX3_init_0 : decode cX3_init 0 = .ok (.aload_n 0, 1) := by decide +kernel
theorem dX3_init_1 : decode cX3_init 1 = .ok (.invokespecial 3, 3) := by decide +kernel
theorem dX3_init_4 : decode cX3_init 4 = .ok (.aload_n 0, 1) := by decide +kernel
theorem dX3_init_5 : decode cX3_init 5 = .ok (.iload_n 2, 1) := by decide +kernel
theorem dX3_init_6 : decode cX3_init 6 = .ok (.putfield 9, 3) := by decide +kernel
theorem dX3_init_9 : decode cX3_init 9 = .ok (.aload_n 0, 1) := by decide +kernel
theorem dX3_init_10 : decode cX3_init 10 = .ok (.iconst 0, 1) := by decide +kernel
theorem dX3_init_11 : decode cX3_init 11 = .ok (.iload_n 1, 1) := by decide +kernel
theorem dX3_init_12 : decode cX3_init 12 = .ok (.iload_n 2, 1) := by decide +kernel
theorem dX3_init_13 : decode cX3_init 13 = .ok (.imul, 1) := by decide +kernel
theorem dX3_init_14 : decode cX3_init 14 = .ok (.invokestatic 15, 3) := by decide +kernel
theorem dX3_init_17 : decode cX3_init 17 = .ok (.newarray .int, 2) := by decide +kernel
theorem dX3_init_19 : decode cX3_init 19 = .ok (.putfield 21, 3) := by decide +kernel
theorem dX3_init_22 : decode cX3_init 22 = .ok (.aload_n 0, 1) := by decide +kernel
theorem dX3_init_23 : decode cX3_init 23 = .ok (.iload_n 3, 1) := by decide +kernel
theorem dX3_init_24 : decode cX3_init 24 = .ok (.putfield 25, 3) := by decide +kernel
theorem dX3_init_27 : decode cX3_init 27 = .ok (.return_, 1) := by decide +kernel
set_option maxHeartbeats 4000000 in
set_option maxRecDepth 100000 in
theorem kX3_init (l : Launch) (D : va_G) (cI cS : ClassId) (tA w rows size : Nat) (hw2 : w ≤ 14) (hr : rows ≤ 64) (hs : size ≤ rows) : McN l D (tyL cI cS) yX3_init cX3_init 4 2 [.ref tA, .int (nI rows), .int (nI w), .int (nI size)] [(tA, .inr (1, [.int 0, .null, .int 0]))] 1 (rows * w) (fun tC => wB cI tA tC w rows (size, fun _ _ => 0)) := by
  have hn := small_n hw2 hr
  have emax : (if (0 : Int32) < nI rows * nI w then nI rows * nI w else 0) = nI (rows * w) := by
    rw [pk_mul]
    by_cases h : 0 < rows * w
    · rw [if_pos (show (0 : Int32) < nI (rows * w) from nI_lt (a := 0) h (by omega))]
    · rw [if_neg (show ¬ (0 : Int32) < nI (rows * w) from nI_nlt (a := 0) (by omega) (by omega)), show rows * w = 0 by omega]
      rfl
  have ew : ∀ tC, wB cI tA tC w rows (size, fun _ _ => 0) = [(tA, .inr (1, [.int (nI w), .ref tC, .int (nI size)])), (tC, .inl (cI, rows * w, .inl (fun _ => 0)))] := fun tC => by
    unfold wB tv wT
    rw [show tz rows (size, fun _ _ => 0) = size from Nat.min_eq_left hs]
    rfl
  refine McN_of RX3 (by decide +kernel) rfl wc_X3_init (Nat.le_of_ble_eq_true rfl) ?_
  intro p e s m args below meth c A Q ls C hnm hA hz hN hP hD hS hl RET
  refine x_aload_n C dX3_init_0 rfl hl 0 rfl ?_
  refine x_obj C wm_X3_3 hl.1 dX3_init_1 (Nat.le_of_ble_eq_true rfl) (Nat.le_of_ble_eq_true rfl) ?_
  refine x_aload_n C dX3_init_4 rfl hl 0 rfl ?_
  refine x_iload_n C dX3_init_5 rfl hl 2 rfl ?_
  refine x_putF C hnm (ws' := [(tA, .inr (1, [.int (nI w), .null, .int 0]))]) (ft := .int) inX3 tyX3 tyX3_ok nmX3 hP hD hS 0 rfl rfl 0 (by decide) wf_X3_9 rfl rfl (by decide +kernel) rfl rfl (Nat.le_of_ble_eq_true rfl) rfl dX3_init_6 (fun H locs hP hD hS => ?_)
  refine x_aload_n C dX3_init_9 rfl hl 0 rfl ?_
  refine x_iconst (v := (0 : Int32)) C dX3_init_10 (by decide) ?_
  refine x_iload_n C dX3_init_11 rfl hl 1 rfl ?_
  refine x_iload_n C dX3_init_12 rfl hl 2 rfl ?_
  refine x_imul C dX3_init_13 ?_
  refine x_max C hl.1 wm_X3_15 wt_J9_max_7cf53 wz_J9 wc_J9_max_7cf53 (Nat.le_of_ble_eq_true rfl) (Nat.le_of_ble_eq_true rfl) ⟨Nat.zero_le _, Nat.zero_le _⟩ dX3_init_14 ?_
  rw [emax]
  refine x_newI C hP hD hS hA (nI_pos (by omega)) (nI_clamp (by omega)) (by omega) (Nat.le_refl _) (by show 0 + rows * w ≤ rows * w; omega) dX3_init_17 (fun tC H hP hD hS => ?_)
  refine x_putF C hnm (ws' := [(tA, .inr (1, [.int (nI w), .ref tC, .int 0])), (tC, .inl (cI, rows * w, .inl (fun _ => 0)))]) (ft := (.array .int)) inX3 tyX3 tyX3_ok nmX3 hP hD hS 0 rfl rfl 1 (by decide) wf_X3_21 rfl rfl (by decide +kernel) rfl rfl (Nat.le_of_ble_eq_true rfl) rfl dX3_init_19 (fun H locs hP hD hS => ?_)
  refine x_aload_n C dX3_init_22 rfl hl 0 rfl ?_
  refine x_iload_n C dX3_init_23 rfl hl 3 rfl ?_
  refine x_put C (ws' := [(tA, .inr (1, [.int (nI w), .ref tC, .int (nI size)])), (tC, .inl (cI, rows * w, .inl (fun _ => 0)))]) (ft := .int) inX3 tyX3 tyX3_ok nmX3 hP hD hS 0 rfl rfl 2 (by decide) wf_X3_25 rfl (by decide +kernel) rfl rfl (Nat.le_of_ble_eq_true rfl) rfl dX3_init_24 (fun H locs hP hD hS => ?_)
  have hP2 : va_P D vwCl (wB cI tA tC w rows (size, fun _ _ => 0)) H := by rw [ew]; exact hP
  have hD2 : va_D A (wB cI tA tC w rows (size, fun _ _ => 0)) := by rw [ew]; exact hD
  refine W.widen (k := 1) (n := rows * w) (Nat.le_refl _) (by show 0 + rows * w ≤ _; omega) ?_
  exact RET tC dX3_init_27 hP2 hD2 hS
