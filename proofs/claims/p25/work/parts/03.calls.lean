/-! contracts with one answer and one world behind; calls; fields and arrays -/
abbrev okI (i : Int32) (n : Nat) : Prop := ¬ (i < 0 ∨ n ≤ i.toNatClampNeg)
def leastL : List Int32 := [0, 0, 1, 1, 1, 1, 1, 0, 1, 0, 0, 0]
def mostL : List Int32 := [50, 50, 60, 6, 40, 16, 64, 3, 12, 12, 20, 10]
def firstL : List Int32 := [0, 0, 20, 3, 10, 2, 16, 0, 2, 0, 20, 10]
def tabI (t : List Int32) : Nat → Int32 := fun j => t.getD j 0
def tabF (t : List Int32) : Nat → Value := fun j => .int (t.getD j 0)
/-- a static table of twelve numbers that nobody writes -/
def ZT (n : String) (t : List Int32) (A : Nat → Prop) (U : State) (H : Heap) : Prop := ∃ a : Nat, va_Z "RetryStorm" n "[I" (.ref a) A U H ∧ va_T .int a 12 (tabF t) A U H
def ZZ (A : Nat → Prop) (U : State) (H : Heap) : Prop := ZT "LEAST" leastL A U H ∧ ZT "MOST" mostL A U H ∧ ZT "AT_FIRST" firstL A U H
theorem ZT.moved {n : String} {t : List Int32} {A : Nat → Prop} {u U : State} {H : Heap} (hvm : u.vm.Alike U.vm) (h : ZT n t A u H) : ZT n t A U H := by
  obtain ⟨a, h1, h2⟩ := h
  exact ⟨a, h1.moved hvm, h2.moved hvm⟩
theorem ZT.kept {n : String} {t : List Int32} {A : Nat → Prop} {U : State} {H H1 : Heap} (h : ZT n t A U H) (hq : ∀ a : Nat, a < H.size → ¬ A a → H1[a]? = H[a]?) : ZT n t A U H1 := by
  obtain ⟨a, h1, h2⟩ := h
  exact ⟨a, h1.kept hq, h2.kept hq⟩
theorem ZT.narrow {n : String} {t : List Int32} {A B : Nat → Prop} {U : State} {H : Heap} (h : ZT n t A U H) (hAB : ∀ q, B q → A q) : ZT n t B U H := by
  obtain ⟨a, h1, h2⟩ := h
  exact ⟨a, h1.narrow hAB, h2.narrow hAB⟩
theorem ZZ.moved {A : Nat → Prop} {u U : State} {H : Heap} (hvm : u.vm.Alike U.vm) (h : ZZ A u H) : ZZ A U H := ⟨h.1.moved hvm, h.2.1.moved hvm, h.2.2.moved hvm⟩
theorem ZZ.kept {A : Nat → Prop} {U : State} {H H1 : Heap} (h : ZZ A U H) (hq : ∀ a : Nat, a < H.size → ¬ A a → H1[a]? = H[a]?) : ZZ A U H1 := ⟨h.1.kept hq, h.2.1.kept hq, h.2.2.kept hq⟩
theorem ZZ.narrow {A B : Nat → Prop} {U : State} {H : Heap} (h : ZZ A U H) (hAB : ∀ q, B q → A q) : ZZ B U H := ⟨h.1.narrow hAB, h.2.1.narrow hAB, h.2.2.narrow hAB⟩
def cP (D : va_G) (ty : List (ClassId × FieldType)) (z : Bool) (w : va_W) (sz : Nat) (U : State) : Prop := U.heap.size = sz ∧ va_P D vwCl w U.heap ∧ va_K D vwCl ty U ∧ va_D (fun _ => True) w ∧ (z = true → ZZ (va_A w sz) U U.heap)
def cQ (D : va_G) (ty : List (ClassId × FieldType)) (w w1 : va_W) (sz : Nat) (t : State) : Prop := va_P D vwCl w1 t.heap ∧ va_K D vwCl ty t ∧ va_D (va_A w sz) w1
def Qd (D : va_G) (ty : List (ClassId × FieldType)) (w : va_W) (sz : Nat) (v : Option Value) (w1 : va_W) : Array Value → State → Outcome → State → Prop := fun _ st oc t => oc = .returned v ∧ cQ D ty w w1 sz t ∧ va_F (va_A w sz) st t
def Mc (l : Launch) (D : va_G) (ty : List (ClassId × FieldType)) (z : Bool) (y : MethodName) (cc : ByteArray) (nL : Nat) (ret : Option FieldType) (d : Nat) (as : List Value) (w : va_W) (v : Option Value) (w1 : va_W) : Prop :=
  ∀ sz : Nat, Met l y (.code y cc nL ret :: WS) (rmL d) (va_Pc as (cP D ty z w sz)) (Qd D ty w sz v w1) 0 0 (va_A w sz)
theorem cP_blind {D : va_G} {ty : List (ClassId × FieldType)} {z : Bool} {w : va_W} {sz : Nat} {as : List Value} : FrameBlind (va_Pc as (cP D ty z w sz)) := by
  intro a U g mk q
  obtain ⟨q0, q1, qP, qK, qD, qz⟩ := q
  exact ⟨q0, q1, qP, va_K.moved (u := U) (U := U.calling g mk a) (Vm.Alike.refl U.vm) qK, qD, fun h => ZZ.moved (u := U) (U := U.calling g mk a) (Vm.Alike.refl U.vm) (qz h)⟩
section XC
variable {p : Program} {l : Launch} {e : Env} {R : Room} {s : State} {m : MethodId} {args : Array Value} {below : List Frame} {meth : Method} {c : Code} {H : Heap} {locs : List Loc} {cells slots : Nat} {Q : State → Prop} {own : String} {cc : ByteArray} {nL : Nat} {ret : Option FieldType} {D : va_G} {ty : List (ClassId × FieldType)} {pc : Nat} {ls : Array Slot} {rest : List Value} {A : Nat → Prop} {H0 : Heap} {ws : va_W} {lv lv' : List (Nat × Value)} {ρ : Type} {X Y : Option ρ} {q : ρ}
variable {z : Bool} {y : MethodName} {bytes : ByteArray} {maxL n index d : Nat} {rt : Option FieldType} {w w1 : va_W} {v : Option Value} {st As : List Value} {b : Addr}
theorem x_callB (C : Cx p s m args meth c own cc nL ret D ty) (hw1 : Cond.methodLink own index y ∈ WS) (hw4 : Cond.initialized y.cls ∈ WS) (hw5 : Cond.code y bytes maxL rt ∈ WS)
    (hd : y.cls ≠ "java/lang/invoke/MethodHandle" ∧ y.cls ≠ "java/lang/invoke/VarHandle" ∧ (parseMethodDescriptor y.desc).map (fun d => d.parameters.length) = some n) (hR : d + 1 ≤ R.frames ∧ 8 + (maxL + 11) + 40 * d ≤ R.locals) :
    CallB R s args own index y bytes maxL rt (.code y bytes maxL rt :: WS) (rmL d) 0 0 n := by
  have hW := C.2.2.2.2.1
  refine ⟨rfl, rfl, hR.1, hR.2, fun w0 h0 a' U hU => ?_, List.mem_cons_self, hW _ hw5, hW _ hw4, ⟨hd.1, hd.2.1⟩, fun sig h => ?_, hW _ hw1⟩
  · have h1 : w0 ∈ WS := by
      rcases List.mem_cons.mp h0 with rfl | h
      · exact hw5
      · exact h
    exact word_at hU (WS_good _ h1) (hW _ h1)
  · have h2 := hd.2.2
    rw [h] at h2
    exact (Option.some.inj h2).symm
theorem x_free (hD : va_D A w) (hS : va_S A s.heap H locs) (hA : ∀ q, s.heap.size ≤ q → A q) : ∀ q, va_A w H.size q → A q := by
  intro q h
  rcases h with ⟨k, e, h⟩ | h
  · exact hD.2 k (q, e) h
  · exact hA q (Nat.le_trans hS.1 h)
theorem x_pre (C : Cx p s m args meth c own cc nL ret D ty) (hz : z = true → ZZ A s s.heap) (hP : va_P D vwCl w H) (hD : va_D A w) (hS : va_S A s.heap H locs) (hA : ∀ q, s.heap.size ≤ q → A q) (U : State) (hU : U.heap = H) (hW : s.WarmedH U.vm) : cP D ty z w H.size U := by
  have hF := x_free hD hS hA
  refine ⟨by rw [hU], by rw [hU]; exact hP, va_K.moved hW.alike C.2.2.2.2.2.1, hD.weaken (fun _ _ _ _ => trivial), fun h => ?_⟩
  rw [hU]
  exact (((hz h).moved hW.alike).kept (fun a h1 h2 => hS.2.1 a h1 h2)).narrow hF
theorem x_end (hD : va_D A w) (hS : va_S A s.heap H locs) (hA : ∀ q, s.heap.size ≤ q → A q) {g : JFrame} {a : Array Value}
    (hr : va_Run p l e R s m args below meth c H locs cells slots 0 0 g rest (Qd D ty w H.size v w1 a) (va_A w H.size))
    (kk : ∀ (H1 : Heap) (locs1 : List Loc), va_P D vwCl w1 H1 → va_D A w1 → va_S A s.heap H1 locs1 → W p l e R s m args below meth c H1 locs1 cells slots Q { g with pc := g.pc + 3, stack := v.toList ++ rest }) : W p l e R s m args below meth c H locs cells slots Q g := by
  have hF := x_free hD hS hA
  intro T hT X
  obtain ⟨v', st₀, t, T', L, h0, X', hL, e1, e2, ⟨hv, ⟨qP, -, qD⟩, hz, hk⟩, stp⟩ := hr T hT X
  obtain rfl : v' = v := by injection hv
  rw [h0] at hz hk
  obtain ⟨t2, a1, b1⟩ := kk T'.heap (locs ++ L) (by rw [e1]; exact qP) (qD.weaken (fun _ _ _ h => hF _ h))
    ⟨Nat.le_trans hS.1 (by rw [e1]; exact hz), fun q h1 h2 => by rw [e1, hk q (Nat.lt_of_lt_of_le h1 hS.1) (fun z => h2 (hF q z))]; exact hS.2.1 q h1 h2, fun q hq => by
      rcases List.mem_append.mp hq with h | h
      · exact hS.2.2 q h
      · exact hF _ (hL q h)⟩ T' rfl X'
  exact ⟨t2, stp t2 a1, b1⟩
/-- a call of an instance method -/
theorem x_callV (C : Cx p s m args meth c own cc nL ret D ty) (hM : Mc l D ty z y bytes maxL rt d (.ref b :: As) w v w1) (hz : z = true → ZZ A s s.heap)
    (hw1 : Cond.methodLink own index y ∈ WS) (hw2 : Cond.instanceMethod y ∈ WS) (hw3 : Cond.selects y.cls y y ∈ WS) (hw4 : Cond.initialized y.cls ∈ WS) (hw5 : Cond.code y bytes maxL rt ∈ WS)
    (hd : y.cls ≠ "java/lang/invoke/MethodHandle" ∧ y.cls ≠ "java/lang/invoke/VarHandle" ∧ (parseMethodDescriptor y.desc).map (fun d => d.parameters.length) = some n) (hn : As.length = n)
    (hP : va_P D vwCl w H) (hD : va_D A w) (hS : va_S A s.heap H locs) (hA : ∀ q, s.heap.size ≤ q → A q)
    (q0 ci : Nat) {fs : List Value} {r : vw_C} (hrecv : w[q0]? = some (b, .inr (ci, fs))) (hci : vwCl[ci]? = some r) (hcn : r.1 = y.cls)
    (hl : ls.size = nL) (hdg : decode cc pc = .ok (.invokevirtual index, 3)) (hst : st = As.reverse ++ .ref b :: rest) (hcat : (rest.map fun v => v.category).sum ≤ 8)
    (hR : d + 1 ≤ R.frames ∧ 8 + (maxL + 11) + 40 * d ≤ R.locals) (hf : cells ≤ R.cells ∧ slots ≤ R.slots)
    (kk : ∀ (H1 : Heap) (locs1 : List Loc), va_P D vwCl w1 H1 → va_D A w1 → va_S A s.heap H1 locs1 → W p l e R s m args below meth c H1 locs1 cells slots Q (F0 m (pc + 3) ls (v.toList ++ rest))) : W p l e R s m args below meth c H locs cells slots Q (F0 m pc ls st) := by
  subst hst
  have hrv := va_recv C.2.2.2.2.2.1 hP (ci := ci) (q0 := q0) hci hrecv
  rw [hcn] at hrv
  refine x_end (ty := ty) hD hS hA (g := F0 m pc ls (As.reverse ++ .ref b :: rest)) (a := (Value.ref b :: As).toArray) ?_ kk
  exact va_runV (g := F0 m pc ls (As.reverse ++ .ref b :: rest)) ⟨C.1, C.2.1, C.2.2.1, C.2.2.2.1, C.2.2.2.2.1⟩ (hM H.size) ⟨x_callB C hw1 hw4 hw5 hd hR, C.2.2.2.2.1 _ hw2, C.2.2.2.2.1 _ hw3⟩
    ⟨cP_blind, hrv, fun U hU hW => ⟨rfl, x_pre C hz hP hD hS hA U hU hW⟩⟩ rfl hn hl rfl (lv_room hcat) hdg hf
/-- a call of a static method -/
theorem x_callS (C : Cx p s m args meth c own cc nL ret D ty) (hM : Mc l D ty z y bytes maxL rt d As w v w1) (hz : z = true → ZZ A s s.heap)
    (hw1 : Cond.methodLink own index y ∈ WS) (hw2 : Cond.static y ∈ WS) (hw4 : Cond.initialized y.cls ∈ WS) (hw5 : Cond.code y bytes maxL rt ∈ WS)
    (hd : y.cls ≠ "java/lang/invoke/MethodHandle" ∧ y.cls ≠ "java/lang/invoke/VarHandle" ∧ (parseMethodDescriptor y.desc).map (fun d => d.parameters.length) = some n) (hn : As.length = n)
    (hP : va_P D vwCl w H) (hD : va_D A w) (hS : va_S A s.heap H locs) (hA : ∀ q, s.heap.size ≤ q → A q)
    (hl : ls.size = nL) (hdg : decode cc pc = .ok (.invokestatic index, 3)) (hst : st = As.reverse ++ rest) (hcat : (rest.map fun v => v.category).sum ≤ 8)
    (hR : d + 1 ≤ R.frames ∧ 8 + (maxL + 11) + 40 * d ≤ R.locals) (hf : cells ≤ R.cells ∧ slots ≤ R.slots)
    (kk : ∀ (H1 : Heap) (locs1 : List Loc), va_P D vwCl w1 H1 → va_D A w1 → va_S A s.heap H1 locs1 → W p l e R s m args below meth c H1 locs1 cells slots Q (F0 m (pc + 3) ls (v.toList ++ rest))) : W p l e R s m args below meth c H locs cells slots Q (F0 m pc ls st) := by
  subst hst
  refine x_end (ty := ty) hD hS hA (g := F0 m pc ls (As.reverse ++ rest)) (a := As.toArray) ?_ kk
  exact va_runS (g := F0 m pc ls (As.reverse ++ rest)) ⟨C.1, C.2.1, C.2.2.1, C.2.2.2.1, C.2.2.2.2.1⟩ (hM H.size) ⟨x_callB C hw1 hw4 hw5 hd hR, C.2.2.2.2.1 _ hw2⟩
    ⟨cP_blind, fun U hU hW => ⟨rfl, x_pre C hz hP hD hS hA U hU hW⟩⟩ rfl hn hl rfl (lv_room hcat) hdg hf
/-- as Met.ofW, for a method that no entry runs in place of its bytecode -/
theorem Met.ofWF {l : Launch} {y : MethodName} {ws ws' : List Cond} {rm : Room} {Pc : Array Value → State → Prop} {Qc : Array Value → State → Outcome → State → Prop} {mc ms : Nat} {free : Addr → Prop} {cc : ByteArray} {maxL : Nat} {ret : Option FieldType}
    (hy : plainFor y = true) (hw : ws = Cond.code y cc maxL ret :: ws')
    (body : ∀ p e s m args below meth c s₁, BodyLoose p l y (headSpec ws rm) cc maxL ret e s m args below meth c s₁ → c.maxLocals = maxL → Pc args s →
      W p l e (headSpec ws rm).room s m args below meth c s.heap [] 0 0 (MQ below Qc args s mc ms free) (entryFrame m args maxL)) : Met l y ws rm Pc Qc mc ms free := by
  refine MetFree.of_bodySF (code := cc) (maxLocals := maxL) (ret := ret) hy ?_ ?_
  · intro args s m h hn
    obtain ⟨meth, c, h1, h2, h3, h4, h5, h6, -, -⟩ := Cond.code_spec hn (atoms_spec (ws := ws) h _ (by rw [hw]; exact List.mem_cons_self))
    exact ⟨meth, c, h1, h2, h3, h4, h5, h6⟩
  · intro p e s m args below meth c s₁ B hml hP _
    have hh0 : s₁.heap = s.heap := by rw [B.state]; rfl
    obtain ⟨t, a1, o, b1, b2, b3⟩ := body p e s m args below meth c s₁ B hml hP s₁ hh0 (Stand.of_body B)
    exact ⟨t, o, a1, b1, b2, ⟨b3.1, b3.2⟩⟩
/-- a method's body, from its entry -/
theorem Mc_of {as : List Value} (own : String) (hy : plainFor y = true) (hown : y.cls = own) (hwc : Cond.code y cc nL ret ∈ WS) (hlen : (lg_sl as).length ≤ nL)
    (body : ∀ (p : Program) (e : Env) (s : State) (m : MethodId) (args : Array Value) (below : List Frame) (meth : Method) (c : Code) (A : Nat → Prop) (Q : State → Prop) (ls : Array Slot),
      Cx p s m args meth c own cc nL ret D ty → (∀ q, s.heap.size ≤ q → A q) → (z = true → ZZ A s s.heap) → va_P D vwCl w s.heap → va_D A w → va_S A s.heap s.heap [] → lv_has ls nL (lv_args 0 as) →
      (∀ {H : Heap} {locs : List Loc} {g : JFrame}, (∀ free, (∀ q ∈ locs, free q.base) → ∀ Qc : Array Value → State → Outcome → State → Prop, (∀ t : State, t.heap = H → s.WarmedH t.vm → Qc args s (.returned v) t) → W p l e (rmL d) s m args below meth c H locs 0 0 (MQ below Qc args s 0 0 free) g) → va_P D vwCl w1 H → va_D A w1 → va_S A s.heap H locs → W p l e (rmL d) s m args below meth c H locs 0 0 Q g) →
      W p l e (rmL d) s m args below meth c s.heap [] 0 0 Q (F0 m 0 ls [])) : Mc l D ty z y cc nL ret d as w v w1 := by
  intro sz
  refine Met.ofWF (cc := cc) (maxL := nL) (ret := ret) hy rfl ?_
  intro p e s m args below meth c s₁ B hml hv
  obtain ⟨rfl, hsz, hP, hK, hD0, hz⟩ := hv
  have hts := atoms_spec (ws := .code y cc nL ret :: WS) B.pre
  have hfc : s.vm.findClass own = some m.cls := by rw [← hown]; exact findClass_of_methodNamed B.named
  subst hsz
  have hD := hD0.self (sz := s.heap.size)
  have hl := lv_entry as (n := nL) hlen
  rw [lg_entry_eq]
  refine body p e s m as.toArray below meth c (va_A w s.heap.size) _ _ ⟨B.exec, B.bytes, hml, hfc, fun w0 h0 => hts _ (List.mem_cons_of_mem _ h0), hK, B.returns, B.notSynchronized⟩ (fun q h => Or.inr h) hz hP hD va_S.rf hl ?_
  intro H locs g hw hP1 hD1 hS1
  refine hw _ hS1.2.2 _ (fun t ht hW => ⟨rfl, ⟨by rw [ht]; exact hP1, va_K.moved hW.alike hK, hD1⟩, hS1.F ht⟩)
/-- fields -/
theorem x_get (C : Cx p s m args meth c own cc nL ret D ty) {Cn : String} {T : u_T} {N ci a : Nat} {fs : List Value} {v : Value} (hin : ∀ w ∈ u_ws Cn T N, w ∈ WS) (hP : va_P D vwCl ws H) (q0 : Nat) (he : ws[q0]? = some (a, .inr (ci, fs))) (hc : vwCl[ci]? = some (Cn, T, N)) (k : Nat) (hk : k < N) (hw : Cond.fieldLink own index (T k).1 (T k).2.1 (T k).2.2.1 ∈ WS) (hv : fs[k]? = some v) (hdg : decode cc pc = .ok (.getfield index, 3))
    (kk : W p l e R s m args below meth c H locs cells slots Q (F0 m (pc + 3) ls (v :: rest))) : W p l e R s m args below meth c H locs cells slots Q (F0 m pc ls (.ref a :: rest)) :=
  va_get C.1 C.2.1 C.2.2.2.2.1 hin C.2.2.2.1 C.2.2.2.2.2.1 hP q0 he hc k hk (C.2.2.2.2.1 _ hw) (fun _ h => h) hv hdg kk
theorem x_put (C : Cx p s m args meth c own cc nL ret D ty) {Cn : String} {T : u_T} {N ci a : Nat} {fs : List Value} {v : Value} {ft : FieldType} {ws' : va_W} (hin : ∀ w ∈ u_ws Cn T N, w ∈ WS) (t0 : Nat → FieldType) (ht0 : ∀ k, k < N → parseFieldDescriptor (T k).2.2.1 = some (t0 k)) (hnm : ∀ a, a < N → ∀ b, b < N → a ≠ b → (T a).2.1 ≠ (T b).2.1) (hP : va_P D vwCl ws H) (hD : va_D A ws) (hS : va_S A H0 H locs) (q0 : Nat) (he : ws[q0]? = some (a, .inr (ci, fs))) (hc : vwCl[ci]? = some (Cn, T, N)) (k : Nat) (hk : k < N) (hw : Cond.fieldLink own index (T k).1 (T k).2.1 (T k).2.2.1 ∈ WS) (hfin : (T k).2.2.2 = false) (hd : parseFieldDescriptor (T k).2.2.1 = some ft) (hn : narrow ft v = v) (hfit : fits ft v = true) (hl : k < fs.length) (hset : ws.set q0 (a, .inr (ci, fs.set k v)) = ws') (hdg : decode cc pc = .ok (.putfield index, 3))
    (kk : ∀ (H1 : Heap) (locs1 : List Loc), va_P D vwCl ws' H1 → va_D A ws' → va_S A H0 H1 locs1 → W p l e R s m args below meth c H1 locs1 cells slots Q (F0 m (pc + 3) ls rest)) : W p l e R s m args below meth c H locs cells slots Q (F0 m pc ls (v :: .ref a :: rest)) := by
  subst hset
  exact va_put C.1 C.2.1 C.2.2.2.2.1 hin t0 ht0 hnm C.2.2.2.1 C.2.2.2.2.2.1 hP hD hS q0 he hc k hk (C.2.2.2.2.1 _ hw) (fun _ h => h) hfin hd hn hfit hl hdg kk
/-- arrays of ints -/
theorem x_ialdK (C : Cx p s m args meth c own cc nL ret D ty) {a t0 : Nat} {cA : ClassId} {n : Nat} {f : Nat → Int32} {i : Int32} (hin : okI i n) (hP : va_P D vwCl ws H) (q0 : Nat) (ha : ws[q0]? = some (a, .inl (cA, n, .inl f))) (ht : ty[t0]? = some (cA, .int)) (hdg : decode cc pc = .ok (.iaload, 1))
    (kk : W p l e R s m args below meth c H locs cells slots Q (F0 m (pc + 1) ls (.int (f i.toNatClampNeg) :: rest))) : W p l e R s m args below meth c H locs cells slots Q (F0 m pc ls (.int i :: .ref a :: rest)) :=
  va_iald C.1 C.2.1 C.2.2.2.2.2.1 hP q0 t0 ha ht hin hdg kk
theorem x_iald (C : Cx p s m args meth c own cc nL ret D ty) {a t0 : Nat} {cA : ClassId} {n : Nat} {f : Nat → Int32} {i : Int32} (h : (if okI i n then X else none) = some q) (hP : va_P D vwCl ws H) (q0 : Nat) (ha : ws[q0]? = some (a, .inl (cA, n, .inl f))) (ht : ty[t0]? = some (cA, .int)) (hdg : decode cc pc = .ok (.iaload, 1))
    (kk : X = some q → W p l e R s m args below meth c H locs cells slots Q (F0 m (pc + 1) ls (.int (f i.toNatClampNeg) :: rest))) : W p l e R s m args below meth c H locs cells slots Q (F0 m pc ls (.int i :: .ref a :: rest)) := by
  by_cases hc : okI i n
  · exact x_ialdK C hc hP q0 ha ht hdg (kk ((if_pos hc).symm.trans h))
  · rw [if_neg hc] at h; cases h
theorem x_iastK (C : Cx p s m args meth c own cc nL ret D ty) {a t0 : Nat} {cA : ClassId} {n : Nat} {f : Nat → Int32} {i x : Int32} {ws' : va_W} (hin : okI i n) (hP : va_P D vwCl ws H) (hD : va_D A ws) (hS : va_S A H0 H locs) (q0 : Nat) (ha : ws[q0]? = some (a, .inl (cA, n, .inl f))) (ht : ty[t0]? = some (cA, .int)) (hset : ws.set q0 (a, .inl (cA, n, .inl (upd f i.toNatClampNeg x))) = ws') (hdg : decode cc pc = .ok (.iastore, 1))
    (kk : ∀ (H1 : Heap) (locs1 : List Loc), va_P D vwCl ws' H1 → va_D A ws' → va_S A H0 H1 locs1 → W p l e R s m args below meth c H1 locs1 cells slots Q (F0 m (pc + 1) ls rest)) : W p l e R s m args below meth c H locs cells slots Q (F0 m pc ls (.int x :: .int i :: .ref a :: rest)) := by
  subst hset
  exact va_iast C.1 C.2.1 C.2.2.2.2.2.1 hP hD hS q0 t0 ha ht hin hdg kk
theorem x_iast (C : Cx p s m args meth c own cc nL ret D ty) {a t0 : Nat} {cA : ClassId} {n : Nat} {f : Nat → Int32} {i x : Int32} {ws' : va_W} (h : (if okI i n then X else none) = some q) (hP : va_P D vwCl ws H) (hD : va_D A ws) (hS : va_S A H0 H locs) (q0 : Nat) (ha : ws[q0]? = some (a, .inl (cA, n, .inl f))) (ht : ty[t0]? = some (cA, .int)) (hset : ws.set q0 (a, .inl (cA, n, .inl (upd f i.toNatClampNeg x))) = ws') (hdg : decode cc pc = .ok (.iastore, 1))
    (kk : X = some q → ∀ (H1 : Heap) (locs1 : List Loc), va_P D vwCl ws' H1 → va_D A ws' → va_S A H0 H1 locs1 → W p l e R s m args below meth c H1 locs1 cells slots Q (F0 m (pc + 1) ls rest)) : W p l e R s m args below meth c H locs cells slots Q (F0 m pc ls (.int x :: .int i :: .ref a :: rest)) := by
  by_cases hc : okI i n
  · exact x_iastK C hc hP hD hS q0 ha ht hset hdg (kk ((if_pos hc).symm.trans h))
  · rw [if_neg hc] at h; cases h
theorem x_alen (C : Cx p s m args meth c own cc nL ret D ty) {a t0 : Nat} {cA : ClassId} {x : vp_A} {ft : FieldType} {v : Int32} (hP : va_P D vwCl ws H) (q0 : Nat) (ha : ws[q0]? = some (a, .inl (cA, x))) (ht : ty[t0]? = some (cA, ft)) (hv : Int32.ofNat x.1 = v) (hdg : decode cc pc = .ok (.arraylength, 1))
    (kk : W p l e R s m args below meth c H locs cells slots Q (F0 m (pc + 1) ls (.int v :: rest))) : W p l e R s m args below meth c H locs cells slots Q (F0 m pc ls (.ref a :: rest)) :=
  va_alen C.1 C.2.1 C.2.2.2.2.2.1 hP q0 t0 ha ht hv hdg kk
/-- Math.max, Math.min, System.arraycopy -/
theorem x_max (C : Cx p s m args meth c own cc nL ret D ty) (hl : ls.size = nL) (hw1 : Cond.methodLink own index Lib.Math.max.name ∈ WS) (hw2 : Cond.static Lib.Math.max.name ∈ WS) (hw3 : Cond.initialized "java/lang/Math" ∈ WS) (hw4 : Cond.code Lib.Math.max.name Lib.Math.max.code 2 (some .int) ∈ WS) (hfr : 1 ≤ R.frames) (hlo : (rest.map fun v => v.category).sum + 13 ≤ R.locals) (hf : cells ≤ R.cells ∧ slots ≤ R.slots) {x y : Int32} (hdg : decode cc pc = .ok (.invokestatic index, 3))
    (kk : W p l e R s m args below meth c H locs cells slots Q (F0 m (pc + 3) ls (.int (if x < y then y else x) :: rest))) : W p l e R s m args below meth c H locs cells slots Q (F0 m pc ls (.int y :: .int x :: rest)) :=
  va_mmax C.1 C.2.1 (C.2.2.1.trans hl.symm) C.2.2.2.1 (C.2.2.2.2.1 _ hw1) (C.2.2.2.2.1 _ hw2) (C.2.2.2.2.1 _ hw3) (C.2.2.2.2.1 _ hw4) hfr hlo hf.1 hf.2 hdg kk
theorem x_min (C : Cx p s m args meth c own cc nL ret D ty) (hl : ls.size = nL) (hw1 : Cond.methodLink own index Lib.Math.min.name ∈ WS) (hw2 : Cond.static Lib.Math.min.name ∈ WS) (hw3 : Cond.initialized "java/lang/Math" ∈ WS) (hw4 : Cond.code Lib.Math.min.name Lib.Math.min.code 2 (some .int) ∈ WS) (hfr : 1 ≤ R.frames) (hlo : (rest.map fun v => v.category).sum + 13 ≤ R.locals) (hf : cells ≤ R.cells ∧ slots ≤ R.slots) {x y : Int32} (hdg : decode cc pc = .ok (.invokestatic index, 3))
    (kk : W p l e R s m args below meth c H locs cells slots Q (F0 m (pc + 3) ls (.int (if y < x then y else x) :: rest))) : W p l e R s m args below meth c H locs cells slots Q (F0 m pc ls (.int y :: .int x :: rest)) :=
  va_mmin C.1 C.2.1 (C.2.2.1.trans hl.symm) C.2.2.2.1 (C.2.2.2.2.1 _ hw1) (C.2.2.2.2.1 _ hw2) (C.2.2.2.2.1 _ hw3) (C.2.2.2.2.1 _ hw4) hfr hlo hf.1 hf.2 hdg kk
abbrev okC (sp dp k : Int32) (n0 n1 : Nat) : Prop := ¬ sp < 0 ∧ ¬ dp < 0 ∧ ¬ k < 0 ∧ sp.toNatClampNeg + k.toNatClampNeg ≤ n0 ∧ dp.toNatClampNeg + k.toNatClampNeg ≤ n1
theorem x_acopy (C : Cx p s m args meth c own cc nL ret D ty) {sp dp k : Int32} {a a0 n0 n1 t0 t1 : Nat} {c0 c1 : ClassId} {f g : Nat → Int32} {ws' : va_W} (h : (if okC sp dp k n0 n1 then X else none) = some q) (hl : ls.size = nL) (hw1 : Cond.methodLink own index arraycopyName ∈ WS) (hw2 : Cond.native arraycopyName ∈ WS) (hw3 : Cond.static arraycopyName ∈ WS) (hw4 : Cond.initialized "java/lang/System" ∈ WS)
    (hP : va_P D vwCl ws H) (hD : va_D A ws) (hS : va_S A H0 H locs) (q0 q1 : Nat) (ha0 : ws[q0]? = some (a0, .inl (c0, n0, .inl f))) (ha1 : ws[q1]? = some (a, .inl (c1, n1, .inl g))) (ht0 : ty[t0]? = some (c0, .int)) (ht1 : ty[t1]? = some (c1, .int)) (hset : ws.set q1 (a, .inl (c1, n1, .inl (va_cpy f g sp.toNatClampNeg dp.toNatClampNeg k.toNatClampNeg))) = ws')
    (hfr : 1 ≤ R.frames) (hlo : (rest.map fun v => v.category).sum + (nativeFrameWords "java/lang/System" "arraycopy" 5 + 11) ≤ R.locals) (hdg : decode cc pc = .ok (.invokestatic index, 3))
    (kk : X = some q → ∀ (H1 : Heap) (locs1 : List Loc), va_P D vwCl ws' H1 → va_D A ws' → va_S A H0 H1 locs1 → W p l e R s m args below meth c H1 locs1 cells slots Q (F0 m (pc + 3) ls rest)) : W p l e R s m args below meth c H locs cells slots Q (F0 m pc ls (.int k :: .int dp :: .ref a :: .int sp :: .ref a0 :: rest)) := by
  by_cases hc : okC sp dp k n0 n1
  · subst hset
    exact va_copyi C.1 C.2.1 (C.2.2.1.trans hl.symm) C.2.2.2.1 (C.2.2.2.2.1 _ hw1) (C.2.2.2.2.1 _ hw2) (C.2.2.2.2.1 _ hw3) (C.2.2.2.2.1 _ hw4) C.2.2.2.2.2.1 hP hD hS q0 q1 t0 t1 ha0 ha1 ht0 ht1 rfl hc.1 hc.2.1 hc.2.2.1 hc.2.2.2.1 hc.2.2.2.2 (fun _ _ => rfl) hfr hlo hdg (kk ((if_pos hc).symm.trans h))
  · rw [if_neg hc] at h; cases h
/-- the ends -/
theorem x_iret (C : Cx p s m args meth c own cc nL (some .int) D ty) {x : Int32} {pc : Nat} {ls : Array Slot} (hdg : decode cc pc = .ok (.ireturn, 1)) : ∀ free : Addr → Prop, (∀ q ∈ locs, free q.base) → ∀ Qc : Array Value → State → Outcome → State → Prop, (∀ t : State, t.heap = H → s.WarmedH t.vm → Qc args s (.returned (some (.int x))) t) → W p l e R s m args below meth c H locs 0 0 (MQ below Qc args s 0 0 free) (F0 m pc ls [.int x]) :=
  fun _ hf _ hq => W.iret (hlocks := C.2.2.2.2.2.2.2) C.1 C.2.1 C.2.2.2.2.2.2.1 hq hf hdg
theorem x_zret (C : Cx p s m args meth c own cc nL (some .boolean) D ty) {x : Int32} {pc : Nat} {ls : Array Slot} (hx : x = 0 ∨ x = 1) (hdg : decode cc pc = .ok (.ireturn, 1)) : ∀ free : Addr → Prop, (∀ q ∈ locs, free q.base) → ∀ Qc : Array Value → State → Outcome → State → Prop, (∀ t : State, t.heap = H → s.WarmedH t.vm → Qc args s (.returned (some (.int x))) t) → W p l e R s m args below meth c H locs 0 0 (MQ below Qc args s 0 0 free) (F0 m pc ls [.int x]) :=
  fun _ hf _ hq => W.zret (hlocks := C.2.2.2.2.2.2.2) C.1 C.2.1 C.2.2.2.2.2.2.1 (by rcases hx with rfl | rfl <;> decide +kernel) hq hf hdg
theorem x_lret (C : Cx p s m args meth c own cc nL (some .long) D ty) {x : Int64} {pc : Nat} {ls : Array Slot} (hdg : decode cc pc = .ok (.lreturn, 1)) : ∀ free : Addr → Prop, (∀ q ∈ locs, free q.base) → ∀ Qc : Array Value → State → Outcome → State → Prop, (∀ t : State, t.heap = H → s.WarmedH t.vm → Qc args s (.returned (some (.long x))) t) → W p l e R s m args below meth c H locs 0 0 (MQ below Qc args s 0 0 free) (F0 m pc ls [.long x]) :=
  fun _ hf _ hq => W.lret (hlocks := C.2.2.2.2.2.2.2) C.1 C.2.1 C.2.2.2.2.2.2.1 hq hf hdg
theorem x_vret (C : Cx p s m args meth c own cc nL none D ty) {pc : Nat} {ls : Array Slot} (hdg : decode cc pc = .ok (.return_, 1)) : ∀ free : Addr → Prop, (∀ q ∈ locs, free q.base) → ∀ Qc : Array Value → State → Outcome → State → Prop, (∀ t : State, t.heap = H → s.WarmedH t.vm → Qc args s (.returned none) t) → W p l e R s m args below meth c H locs 0 0 (MQ below Qc args s 0 0 free) (F0 m pc ls []) :=
  fun _ hf _ hq => W.vret (hlocks := C.2.2.2.2.2.2.2) C.1 C.2.1 C.2.2.2.2.2.2.1 hq hf hdg
end XC
