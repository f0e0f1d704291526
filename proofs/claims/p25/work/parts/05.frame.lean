/-! the frame: a contract over a world holds over a larger one -/
theorem va_P_mem {D : va_G} {cl : List vw_C} {w : va_W} {H : Heap} : va_P D cl w H ↔ ∀ q ∈ w, va_at D cl q H := by
  constructor
  · intro h q hq
    obtain ⟨k, hk⟩ := List.getElem?_of_mem hq
    exact h k q hk
  · intro h k q hk
    exact h q (List.mem_of_getElem? hk)
theorem va_D_nd {A : Nat → Prop} {w : va_W} : va_D A w ↔ (w.map Prod.fst).Nodup ∧ ∀ q ∈ w, A q.1 := by
  constructor
  · intro h
    refine ⟨?_, fun q hq => ?_⟩
    · refine List.nodup_iff_pairwise_ne.mpr (List.pairwise_iff_getElem.mpr fun i j hi hj hij e => ?_)
      rw [List.length_map] at hi hj
      have h1 := h.1 i j w[i] w[j] (List.getElem?_eq_getElem hi) (List.getElem?_eq_getElem hj) (by simpa using e)
      omega
    · obtain ⟨k, hk⟩ := List.getElem?_of_mem hq
      exact h.2 k q hk
  · intro h
    refine ⟨fun i j p q hi hj e => ?_, fun k q hk => h.2 q (List.mem_of_getElem? hk)⟩
    have hn := List.pairwise_iff_getElem.mp (List.nodup_iff_pairwise_ne.mp h.1)
    obtain ⟨hi', ei⟩ := List.getElem?_eq_some_iff.mp hi
    obtain ⟨hj', ej⟩ := List.getElem?_eq_some_iff.mp hj
    rcases Nat.lt_trichotomy i j with q1 | q1 | q1
    · refine absurd ?_ (hn i j (by rw [List.length_map]; exact hi') (by rw [List.length_map]; exact hj') q1)
      rw [List.getElem_map, List.getElem_map, ei, ej]
      exact e
    · exact q1
    · refine absurd ?_ (hn j i (by rw [List.length_map]; exact hj') (by rw [List.length_map]; exact hi') q1)
      rw [List.getElem_map, List.getElem_map, ei, ej]
      exact e.symm
theorem va_A_mem {w : va_W} {sz q : Nat} : va_A w sz q ↔ q ∈ w.map Prod.fst ∨ sz ≤ q := by
  constructor
  · rintro (⟨k, e, h⟩ | h)
    · exact Or.inl (List.mem_map.mpr ⟨_, List.mem_of_getElem? h, rfl⟩)
    · exact Or.inr h
  · rintro (h | h)
    · obtain ⟨p, h1, h2⟩ := List.mem_map.mp h
      obtain ⟨k, hk⟩ := List.getElem?_of_mem h1
      exact Or.inl ⟨k, p.2, by rw [hk, ← h2]⟩
    · exact Or.inr h
theorem Met.conseq {l : Launch} {y : MethodName} {ws : List Cond} {rm : Room} {Pc Pc' : Array Value → State → Prop} {Qc Qc' : Array Value → State → Outcome → State → Prop} {mc ms : Nat} {free free' : Addr → Prop} (h : Met l y ws rm Pc Qc mc ms free) (hp : ∀ a s, Pc' a s → Pc a s) (hq : ∀ a s o t, Pc' a s → Qc a s o t → Qc' a s o t) (hf : ∀ q, free q → free' q) : Met l y ws rm Pc' Qc' mc ms free' := by
  intro p e h1 h2 h3 s m args below h4 h5 h6 h7
  obtain ⟨n, o, a1, a2, a3, a4, L, a5, a6⟩ := h p e h1 h2 h3 s m args below h4 h5 (hp _ _ h6) h7
  exact ⟨n, o, a1, a2, a3, hq _ _ _ _ h6 a4, L, a5, fun q hL => hf _ (a6 q hL)⟩
theorem Mc.frame {l : Launch} {D : va_G} {ty : List (ClassId × FieldType)} {z : Bool} {y : MethodName} {cc : ByteArray} {nL : Nat} {ret : Option FieldType} {d : Nat} {as : List Value} {wc wc1 w w1 fr : va_W} {v : Option Value} (h : Mc l D ty z y cc nL ret d as wc v wc1) (hw : w.Perm (wc ++ fr)) (hw1 : w1.Perm (wc1 ++ fr)) (hadr : wc1.map Prod.fst = wc.map Prod.fst) : Mc l D ty z y cc nL ret d as w v w1 := by
  intro sz
  have hAA : ∀ q, va_A wc sz q → va_A w sz q := fun q hq => by
    rcases va_A_mem.mp hq with hq | hq
    · exact va_A_mem.mpr (Or.inl ((hw.map Prod.fst).mem_iff.mpr (by rw [List.map_append]; exact List.mem_append_left _ hq)))
    · exact va_A_mem.mpr (Or.inr hq)
  have hfst : (w1.map Prod.fst).Perm (w.map Prod.fst) := by
    refine (hw1.map Prod.fst).trans (List.Perm.trans ?_ (hw.map Prod.fst).symm)
    rw [List.map_append, List.map_append, hadr]
  refine (h sz).conseq ?_ ?_ hAA
  · rintro a s ⟨h1, h2, h3, h4, h5, h6⟩
    have h5' := va_D_nd.mp h5
    refine ⟨h1, h2, va_P_mem.mpr fun q hq => va_P_mem.mp h3 q (hw.mem_iff.mpr (List.mem_append_left _ hq)), h4, va_D_nd.mpr ⟨?_, fun _ _ => trivial⟩, fun hz => (h6 hz).narrow hAA⟩
    have := ((hw.map Prod.fst).nodup_iff.mp h5'.1)
    rw [List.map_append] at this
    exact (List.nodup_append.mp this).1
  · rintro a s o t ⟨-, h2, h3, h4, h5, -⟩ ⟨q1, ⟨q2, q3, -⟩, q5⟩
    have h5' := va_D_nd.mp h5
    have hnd := ((hw.map Prod.fst).nodup_iff.mp h5'.1)
    rw [List.map_append] at hnd
    refine ⟨q1, ⟨va_P_mem.mpr fun q hq => ?_, q3, va_D_nd.mpr ⟨hfst.nodup_iff.mpr h5'.1, fun q hq => va_A_mem.mpr (Or.inl (hfst.mem_iff.mp (List.mem_map.mpr ⟨q, hq, rfl⟩)))⟩⟩, q5.1, fun q hq1 hq2 => q5.2 q hq1 (fun z => hq2 (hAA q z))⟩
    rcases List.mem_append.mp (hw1.mem_iff.mp hq) with hq | hq
    · exact va_P_mem.mp q2 q hq
    · have ha := va_P_mem.mp h3 q (hw.mem_iff.mpr (List.mem_append_right _ hq))
      refine ha.kept (q5.2 q.1 ha.lt fun z => ?_)
      rcases va_A_mem.mp z with z | z
      · exact (List.nodup_append.mp hnd).2.2 _ z _ (List.mem_map.mpr ⟨q, hq, rfl⟩) rfl
      · have := ha.lt; omega
theorem Mc.mid {l : Launch} {D : va_G} {ty : List (ClassId × FieldType)} {z : Bool} {y : MethodName} {cc : ByteArray} {nL : Nat} {ret : Option FieldType} {d : Nat} {as : List Value} {wc wc1 : va_W} {v : Option Value} (h : Mc l D ty z y cc nL ret d as wc v wc1) (hadr : wc1.map Prod.fst = wc.map Prod.fst) (pre post : va_W) : Mc l D ty z y cc nL ret d as (pre ++ (wc ++ post)) v (pre ++ (wc1 ++ post)) :=
  h.frame (fr := pre ++ post) (List.perm_append_comm_assoc _ _ _) (List.perm_append_comm_assoc _ _ _) hadr
theorem Mc.mid2 {l : Launch} {D : va_G} {ty : List (ClassId × FieldType)} {z : Bool} {y : MethodName} {cc : ByteArray} {nL : Nat} {ret : Option FieldType} {d : Nat} {as : List Value} {wa wa1 wb wb1 : va_W} {v : Option Value} (h : Mc l D ty z y cc nL ret d as (wa ++ wb) v (wa1 ++ wb1)) (hadr : (wa1 ++ wb1).map Prod.fst = (wa ++ wb).map Prod.fst) (pre mid post : va_W) : Mc l D ty z y cc nL ret d as (pre ++ (wa ++ (mid ++ (wb ++ post)))) v (pre ++ (wa1 ++ (mid ++ (wb1 ++ post)))) := by
  have key : ∀ a b : va_W, (pre ++ (a ++ (mid ++ (b ++ post)))).Perm ((a ++ b) ++ (pre ++ (mid ++ post))) := fun a b => by
    refine (List.perm_append_comm_assoc _ _ _).trans ?_
    rw [List.append_assoc]
    refine List.Perm.append_left a ?_
    refine (List.Perm.append_left pre (List.perm_append_comm_assoc mid b post)).trans ?_
    exact List.perm_append_comm_assoc _ _ _
  exact h.frame (fr := pre ++ (mid ++ post)) (key wa wb) (key wa1 wb1) hadr
