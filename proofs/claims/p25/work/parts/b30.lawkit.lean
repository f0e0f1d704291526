/-! contracts of the law's own methods: beside the world they know the script; they may make cells -/
def XS (b L : Nat) (xs : Nat → Int32) (A : Nat → Prop) (U : State) (H : Heap) : Prop := va_X b L xs U H ∧ ¬ A b
theorem XS.lt {b L : Nat} {xs : Nat → Int32} {A : Nat → Prop} {U : State} {H : Heap} (h : XS b L xs A U H) : b < H.size := by
  obtain ⟨⟨scr, h1, -⟩, -⟩ := h
  exact (Array.getElem?_eq_some_iff.mp h1).1
theorem XS.moved {b L : Nat} {xs : Nat → Int32} {A : Nat → Prop} {u U : State} {H : Heap} (hvm : u.vm.Alike U.vm) (h : XS b L xs A u H) : XS b L xs A U H := ⟨h.1.moved hvm, h.2⟩
theorem XS.kept {b L : Nat} {xs : Nat → Int32} {A : Nat → Prop} {U : State} {H H1 : Heap} (h : XS b L xs A U H) (hq : ∀ a : Nat, a < H.size → ¬ A a → H1[a]? = H[a]?) : XS b L xs A U H1 := ⟨h.1.kept (hq b h.lt h.2), h.2⟩
theorem XS.narrow {b L : Nat} {xs : Nat → Int32} {A B : Nat → Prop} {U : State} {H : Heap} (h : XS b L xs A U H) (hAB : ∀ q, B q → A q) : XS b L xs B U H := ⟨h.1, fun z => h.2 (hAB b z)⟩
def Ms (l : Launch) (D : va_G) (ty : List (ClassId × FieldType)) (b L : Nat) (xs : Nat → Int32) (y : MethodName) (cc : ByteArray) (nL : Nat) (ret : Option FieldType) (d mc ms : Nat) (as : List Value) (w : va_W) (v : Option Value) (w1 : va_W) : Prop :=
  ∀ sz : Nat, Met l y (.code y cc nL ret :: WS) (rmN d mc ms) (va_Pc as (fun U => cP D ty true w sz U ∧ XS b L xs (va_A w sz) U U.heap)) (Qd D ty w sz v w1) mc ms (va_A w sz)
theorem va_D_l {A : Nat → Prop} {a b : va_W} (h : va_D A (a ++ b)) : va_D A a := by
  have h' := va_D_nd.mp h
  rw [List.map_append] at h'
  exact va_D_nd.mpr ⟨(List.nodup_append.mp h'.1).1, fun q hq => h'.2 q (List.mem_append_left _ hq)⟩
section XL
variable {p : Program} {l : Launch} {e : Env} {R : Room} {s : State} {m : MethodId} {args : Array Value} {below : List Frame} {meth : Method} {c : Code} {H : Heap} {locs : List Loc} {cells slots : Nat} {Q : State → Prop} {own : String} {cc : ByteArray} {nL : Nat} {ret : Option FieldType} {D : va_G} {ty : List (ClassId × FieldType)} {pc index : Nat} {ls : Array Slot} {rest : List Value} {A : Nat → Prop} {H0 : Heap} {b L : Nat} {xs : Nat → Int32} {y : MethodName} {d mc ms maxL n : Nat} {bytes : ByteArray} {rt : Option FieldType} {st : List Value}
theorem Ms_of {as : List Value} {w w1 : va_W} {v : Option Value} (own : String) (hy : plainFor y = true) (hown : y.cls = own) (hwc : Cond.code y cc nL ret ∈ WS) (hlen : (lg_sl as).length ≤ nL)
    (body : ∀ (p : Program) (e : Env) (s : State) (m : MethodId) (args : Array Value) (below : List Frame) (meth : Method) (c : Code) (A : Nat → Prop) (Q : State → Prop) (ls : Array Slot),
      Cx p s m args meth c own cc nL ret D ty → (∀ q, s.heap.size ≤ q → A q) → ZZ A s s.heap → XS b L xs A s s.heap → va_P D vwCl w s.heap → va_D A w → va_S A s.heap s.heap [] → lv_has ls nL (lv_args 0 as) →
      (∀ {H : Heap} {locs : List Loc} {g : JFrame}, (∀ free, (∀ q ∈ locs, free q.base) → ∀ Qc : Array Value → State → Outcome → State → Prop, (∀ t : State, t.heap = H → s.WarmedH t.vm → Qc args s (.returned v) t) → W p l e (rmN d mc ms) s m args below meth c H locs mc ms (MQ below Qc args s mc ms free) g) → va_P D vwCl w1 H → va_D A w1 → va_S A s.heap H locs → W p l e (rmN d mc ms) s m args below meth c H locs mc ms Q g) →
      W p l e (rmN d mc ms) s m args below meth c s.heap [] 0 0 Q (F0 m 0 ls [])) : Ms l D ty b L xs y cc nL ret d mc ms as w v w1 := by
  intro sz
  refine Met.ofWF (cc := cc) (maxL := nL) (ret := ret) hy rfl ?_
  intro p e s m args below meth c s₁ B hml hv
  obtain ⟨rfl, ⟨hsz, hP, hK, hD0, hz⟩, hX⟩ := hv
  have hts := atoms_spec (ws := .code y cc nL ret :: WS) B.pre
  have hfc : s.vm.findClass own = some m.cls := by rw [← hown]; exact findClass_of_methodNamed B.named
  subst hsz
  have hD := hD0.self (sz := s.heap.size)
  have hl := lv_entry as (n := nL) hlen
  rw [lg_entry_eq]
  refine body p e s m as.toArray below meth c (va_A w s.heap.size) _ _ ⟨B.exec, B.bytes, hml, hfc, fun w0 h0 => hts _ (List.mem_cons_of_mem _ h0), hK, B.returns, B.notSynchronized⟩ (fun q h => Or.inr h) (hz rfl) hX hP hD va_S.rf hl ?_
  intro H locs g hw hP1 hD1 hS1
  refine hw _ hS1.2.2 _ (fun t ht hW => ⟨rfl, ⟨by rw [ht]; exact hP1, va_K.moved hW.alike hK, hD1⟩, hS1.F ht⟩)
/-- a static method of the law is called -/
theorem x_callM {w w1 : va_W} {v : Option Value} {As : List Value} (C : Cx p s m args meth c own cc nL ret D ty) (hM : Ms l D ty b L xs y bytes maxL rt d mc ms As w v w1) (hz : ZZ A s s.heap) (hX : XS b L xs A s s.heap)
    (hw1 : Cond.methodLink own index y ∈ WS) (hw2 : Cond.static y ∈ WS) (hw4 : Cond.initialized y.cls ∈ WS) (hw5 : Cond.code y bytes maxL rt ∈ WS)
    (hd : y.cls ≠ "java/lang/invoke/MethodHandle" ∧ y.cls ≠ "java/lang/invoke/VarHandle" ∧ (parseMethodDescriptor y.desc).map (fun d => d.parameters.length) = some n) (hn : As.length = n)
    (hP : va_P D vwCl w H) (hD : va_D A w) (hS : va_S A s.heap H locs) (hA : ∀ q, s.heap.size ≤ q → A q)
    (hl : ls.size = nL) (hdg : decode cc pc = .ok (.invokestatic index, 3)) (hst : st = As.reverse ++ rest) (hcat : (rest.map fun v => v.category).sum ≤ 8)
    (hR : d + 1 ≤ R.frames ∧ 8 + (maxL + 11) + 40 * d ≤ R.locals) (hf : cells + mc ≤ R.cells ∧ slots + ms ≤ R.slots)
    (kk : ∀ (H1 : Heap) (locs1 : List Loc), va_P D vwCl w1 H1 → va_D A w1 → va_S A s.heap H1 locs1 → W p l e R s m args below meth c H1 locs1 (cells + mc) (slots + ms) Q (F0 m (pc + 3) ls (v.toList ++ rest))) : W p l e R s m args below meth c H locs cells slots Q (F0 m pc ls st) := by
  subst hst
  have hW := C.2.2.2.2.1
  have hF := x_free hD hS hA
  have cb : CallB R s args own index y bytes maxL rt (.code y bytes maxL rt :: WS) (rmN d mc ms) mc ms n := by
    refine ⟨rfl, rfl, hR.1, hR.2, fun w0 h0 a' U hU => ?_, List.mem_cons_self, hW _ hw5, hW _ hw4, ⟨hd.1, hd.2.1⟩, fun sig h => ?_, hW _ hw1⟩
    · have h1 : w0 ∈ WS := by
        rcases List.mem_cons.mp h0 with rfl | h
        · exact hw5
        · exact h
      exact word_at hU (WS_good _ h1) (hW _ h1)
    · have h2 := hd.2.2
      rw [h] at h2
      exact (Option.some.inj h2).symm
  have hbl : FrameBlind (va_Pc As (fun U => cP D ty true w H.size U ∧ XS b L xs (va_A w H.size) U U.heap)) := by
    intro a U g mk q
    obtain ⟨q0, ⟨q1, qP, qK, qD, qz⟩, qX⟩ := q
    exact ⟨q0, ⟨q1, qP, va_K.moved (u := U) (U := U.calling g mk a) (Vm.Alike.refl U.vm) qK, qD, fun h => ZZ.moved (u := U) (U := U.calling g mk a) (Vm.Alike.refl U.vm) (qz h)⟩, XS.moved (u := U) (U := U.calling g mk a) (Vm.Alike.refl U.vm) qX⟩
  have hr := va_runS (g := F0 m pc ls (As.reverse ++ rest)) (p := p) (l := l) (e := e) (R := R) (s := s) (m := m) (args := args) (below := below) (meth := meth) (c := c) (H := H) (locs := locs) (cells := cells) (slots := slots) (cc := cc) (nL := nL) (Ts := WS) (own := own) ⟨C.1, C.2.1, C.2.2.1, C.2.2.2.1, C.2.2.2.2.1⟩ (hM H.size) ⟨cb, hW _ hw2⟩
    ⟨hbl, fun U hU hWm => ⟨rfl, x_pre C (fun _ => hz) hP hD hS hA U hU hWm, by
      rw [hU]
      exact ((hX.moved hWm.alike).kept (fun a h1 h2 => hS.2.1 a h1 h2)).narrow hF⟩⟩ rfl hn hl rfl (lv_room hcat) hdg hf
  intro T hT X
  obtain ⟨v', st₀, t, T', L', h0, X', hL, e1, e2, ⟨hv, ⟨qP, -, qD⟩, hzz, hk⟩, stp⟩ := hr T hT X
  obtain rfl : v' = v := by injection hv
  rw [h0] at hzz hk
  obtain ⟨t2, a1, b1⟩ := kk T'.heap (locs ++ L') (by rw [e1]; exact qP) (qD.weaken (fun _ _ _ h => hF _ h))
    ⟨Nat.le_trans hS.1 (by rw [e1]; exact hzz), fun q h1 h2 => by rw [e1, hk q (Nat.lt_of_lt_of_le h1 hS.1) (fun z => h2 (hF q z))]; exact hS.2.1 q h1 h2, fun q hq => by
      rcases List.mem_append.mp hq with h | h
      · exact hS.2.2 q h
      · exact hF _ (hL q h)⟩ T' rfl X'
  exact ⟨t2, stp t2 a1, b1⟩
/-- the frame -/
theorem Ms.frameN {as : List Value} {wc wc1 w w1 fr : va_W} {v : Option Value} (h : Ms l D ty b L xs y cc nL ret d mc ms as wc v wc1) (hw : w.Perm (wc ++ fr)) (hw1 : w1.Perm (wc1 ++ fr)) : Ms l D ty b L xs y cc nL ret d mc ms as w v w1 := by
  intro sz
  have hAA : ∀ q, va_A wc sz q → va_A w sz q := fun q hq => by
    rcases va_A_mem.mp hq with hq | hq
    · exact va_A_mem.mpr (Or.inl ((hw.map Prod.fst).mem_iff.mpr (by rw [List.map_append]; exact List.mem_append_left _ hq)))
    · exact va_A_mem.mpr (Or.inr hq)
  refine (h sz).conseq ?_ ?_ hAA
  · rintro a s ⟨h1, ⟨h2, h3, h4, h5, h6⟩, hX⟩
    have h5' := va_D_nd.mp h5
    refine ⟨h1, ⟨h2, va_P_mem.mpr fun q hq => va_P_mem.mp h3 q (hw.mem_iff.mpr (List.mem_append_left _ hq)), h4, va_D_nd.mpr ⟨?_, fun _ _ => trivial⟩, fun hz => (h6 hz).narrow hAA⟩, hX.narrow hAA⟩
    have := ((hw.map Prod.fst).nodup_iff.mp h5'.1)
    rw [List.map_append] at this
    exact (List.nodup_append.mp this).1
  · rintro a s o t ⟨-, ⟨h2, h3, h4, h5, -⟩, -⟩ ⟨q1, ⟨q2, q3, q4⟩, q5⟩
    have h5' := va_D_nd.mp h5
    have q4' := va_D_nd.mp q4
    have hnd := ((hw.map Prod.fst).nodup_iff.mp h5'.1)
    rw [List.map_append] at hnd
    have hnd' := List.nodup_append.mp hnd
    have hfr : ∀ q ∈ fr, va_at D vwCl q s.heap := fun q hq => va_P_mem.mp h3 q (hw.mem_iff.mpr (List.mem_append_right _ hq))
    have hdis : ∀ q ∈ fr, ¬ va_A wc sz q.1 := fun q hq z => by
      rcases va_A_mem.mp z with z | z
      · exact hnd'.2.2 _ z _ (List.mem_map.mpr ⟨q, hq, rfl⟩) rfl
      · have := (hfr q hq).lt; omega
    refine ⟨q1, ⟨va_P_mem.mpr fun q hq => ?_, q3, va_D_nd.mpr ⟨(hw1.map Prod.fst).nodup_iff.mpr ?_, fun q hq => ?_⟩⟩, q5.1, fun q hq1 hq2 => q5.2 q hq1 (fun z => hq2 (hAA q z))⟩
    · rcases List.mem_append.mp (hw1.mem_iff.mp hq) with hq | hq
      · exact va_P_mem.mp q2 q hq
      · exact (hfr q hq).kept (q5.2 q.1 (hfr q hq).lt (hdis q hq))
    · rw [List.map_append]
      refine List.nodup_append.mpr ⟨q4'.1, hnd'.2.1, fun a ha b hb hab => ?_⟩
      subst hab
      obtain ⟨q, hq, rfl⟩ := List.mem_map.mp ha
      obtain ⟨q2, hq2, e3⟩ := List.mem_map.mp hb
      have h7 := q4'.2 q hq
      rw [← e3] at h7
      exact hdis q2 hq2 h7
    · rcases List.mem_append.mp (hw1.mem_iff.mp hq) with hq | hq
      · exact hAA _ (q4'.2 q hq)
      · exact va_A_mem.mpr (Or.inl (List.mem_map.mpr ⟨q, hw.mem_iff.mpr (List.mem_append_right _ hq), rfl⟩))
theorem Ms.atL {as : List Value} {wc wc1 : va_W} {v : Option Value} (h : Ms l D ty b L xs y cc nL ret d mc ms as wc v wc1) (fr : va_W) : Ms l D ty b L xs y cc nL ret d mc ms as (wc ++ fr) v (wc1 ++ fr) := h.frameN (List.Perm.refl _) (List.Perm.refl _)
theorem Ms.atR {as : List Value} {wc wc1 : va_W} {v : Option Value} (h : Ms l D ty b L xs y cc nL ret d mc ms as wc v wc1) (fr : va_W) : Ms l D ty b L xs y cc nL ret d mc ms as (fr ++ wc) v (fr ++ wc1) := h.frameN List.perm_append_comm List.perm_append_comm
theorem x_zretN (C : Cx p s m args meth c own cc nL (some .boolean) D ty) {x : Int32} {pc : Nat} {ls : Array Slot} (hx : x = 0 ∨ x = 1) (hdg : decode cc pc = .ok (.ireturn, 1)) : ∀ free : Addr → Prop, (∀ q ∈ locs, free q.base) → ∀ Qc : Array Value → State → Outcome → State → Prop, (∀ t : State, t.heap = H → s.WarmedH t.vm → Qc args s (.returned (some (.int x))) t) → W p l e R s m args below meth c H locs cells slots (MQ below Qc args s cells slots free) (F0 m pc ls [.int x]) :=
  fun _ hf _ hq => W.zret (hlocks := C.2.2.2.2.2.2.2) C.1 C.2.1 C.2.2.2.2.2.2.1 (by rcases hx with rfl | rfl <;> decide +kernel) hq hf hdg
theorem x_sld (C : Cx p s m args meth c own cc nL ret D ty) (hX : XS b L xs A s s.heap) (hS : va_S A s.heap H locs) {i : Int32} (hin : okI i L) (hdg : decode cc pc = .ok (.iaload, 1))
    (kk : W p l e R s m args below meth c H locs cells slots Q (F0 m (pc + 1) ls (.int (xs i.toNatClampNeg) :: rest))) : W p l e R s m args below meth c H locs cells slots Q (F0 m pc ls (.int i :: .ref b :: rest)) := va_sld C.1 C.2.1 hX.1 hX.lt hX.2 hS hin hdg kk
theorem x_slen (C : Cx p s m args meth c own cc nL ret D ty) (hX : XS b L xs A s s.heap) (hS : va_S A s.heap H locs) (hdg : decode cc pc = .ok (.arraylength, 1))
    (kk : W p l e R s m args below meth c H locs cells slots Q (F0 m (pc + 1) ls (.int (nI L) :: rest))) : W p l e R s m args below meth c H locs cells slots Q (F0 m pc ls (.ref b :: rest)) := va_slen C.1 C.2.1 hX.1 hX.lt hX.2 hS hdg kk
theorem x_ishr (C : Cx p s m args meth c own cc nL ret D ty) {x y : Int32} (hdg : decode cc pc = .ok (.ishr, 1)) (kk : W p l e R s m args below meth c H locs cells slots Q (F0 m (pc + 1) ls (.int (x >>> (y &&& 31)) :: rest))) : W p l e R s m args below meth c H locs cells slots Q (F0 m pc ls (.int y :: .int x :: rest)) := lv_ishr C.1 C.2.1 hdg kk
end XL
