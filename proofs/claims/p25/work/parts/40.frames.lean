/-! what class and page answer alike, under a relation; the frame where cells come back under other names -/
def St_set (Rel : Nat → RS → MS → Prop) : Prop := ∀ (n : Nat) (X : RS) (M : MS), n < 512 → Rel n X M → ∀ a b c : Int32, ∃ q r, fX5_set a b c X = some q ∧ fX6_set a b c M = some r ∧ q.1 = r.1 ∧ Rel (n + 1) q.2 r.2
def St_property (Rel : Nat → RS → MS → Prop) : Prop := ∀ (n : Nat) (X : RS) (M : MS), n < 512 → Rel n X M → ∀ a b : Int32, ∃ q, fX5_property a b X = some q ∧ fX6_property a b M = some q
def St_setServer (Rel : Nat → RS → MS → Prop) : Prop := ∀ (n : Nat) (X : RS) (M : MS), n < 512 → Rel n X M → ∀ a b : Int32, ∃ q r, fX5_setServer a b X = some q ∧ fX6_setServer a b M = some r ∧ q.1 = r.1 ∧ Rel (n + 1) q.2 r.2
def St_setDiscipline (Rel : Nat → RS → MS → Prop) : Prop := ∀ (n : Nat) (X : RS) (M : MS), n < 512 → Rel n X M → ∀ a : Int32, ∃ q r, fX5_setDiscipline a X = some q ∧ fX6_setDiscipline a M = some r ∧ q.1 = r.1 ∧ Rel (n + 1) q.2 r.2
def St_setSwitch (Rel : Nat → RS → MS → Prop) : Prop := ∀ (n : Nat) (X : RS) (M : MS), n < 512 → Rel n X M → ∀ a b : Int32, b = 0 ∨ b = 1 → ∃ q r, fX5_setSwitch a b X = some q ∧ fX6_setSwitch a b M = some r ∧ q.1 = r.1 ∧ Rel (n + 1) q.2 r.2
def St_surge (Rel : Nat → RS → MS → Prop) : Prop := ∀ (n : Nat) (X : RS) (M : MS), n < 512 → Rel n X M → ∀ a b c d : Int32, ∃ q r, fX5_surge a b c d X = some q ∧ fX6_surge a b c d M = some r ∧ q.1 = r.1 ∧ Rel (n + 1) q.2 r.2
def St_run (Rel : Nat → RS → MS → Prop) : Prop := ∀ (n : Nat) (X : RS) (M : MS), n < 512 → Rel n X M → ∀ a : Int32, ∃ q r, fX5_run a X = some q ∧ fX6_run a M = some r ∧ q.1 = r.1 ∧ Rel (n + 1) q.2 r.2
def St_ifRun (Rel : Nat → RS → MS → Prop) : Prop := ∀ (n : Nat) (X : RS) (M : MS), n < 512 → Rel n X M → ∀ a b : Int32, ∃ q r, fX5_ifRun a b X = some q ∧ fX6_ifRun a b M = some r ∧ q.1 = r.1 ∧ Rel (n + 1) q.2 r.2
def St_bestDiscipline (Rel : Nat → RS → MS → Prop) : Prop := ∀ (n : Nat) (X : RS) (M : MS), n < 512 → Rel n X M → ∀ a : Int32, ∃ q r, fX5_bestDiscipline a X = some q ∧ fX6_bestDiscipline a M = some r ∧ q.1 = r.1 ∧ Rel (n + 1) q.2 r.2
def St_count (Rel : Nat → RS → MS → Prop) : Prop := ∀ (n : Nat) (X : RS) (M : MS), n < 512 → Rel n X M → ∀ a b : Int32, ∃ q, fX5_count a b X = some q ∧ fX6_count a b M = some q
def St_succeededAt (Rel : Nat → RS → MS → Prop) : Prop := ∀ (n : Nat) (X : RS) (M : MS), n < 512 → Rel n X M → ∀ a b : Int32, ∃ q, fX5_succeededAt a b X = some q ∧ fX6_succeededAt a b M = some q
def St_told (Rel : Nat → RS → MS → Prop) : Prop := ∀ (n : Nat) (X : RS) (M : MS), n < 512 → Rel n X M → ∀ a : Int32, ∃ q, fX5_told a X = some q ∧ fX6_told a M = some q
def St_live (Rel : Nat → RS → MS → Prop) : Prop := ∀ (n : Nat) (X : RS) (M : MS), n < 512 → Rel n X M → ∀ a : Int32, ∃ q, fX5_live a X = some q ∧ fX6_live a M = some q
def St_request (Rel : Nat → RS → MS → Prop) : Prop := ∀ (n : Nat) (X : RS) (M : MS), n < 512 → Rel n X M → ∀ a b : Int32, ∃ q, fX5_request a b X = some q ∧ fX6_request a b M = some q
def St_queued (Rel : Nat → RS → MS → Prop) : Prop := ∀ (n : Nat) (X : RS) (M : MS), n < 512 → Rel n X M → ∀ a b : Int32, a = 0 ∨ a = 1 → ∃ q, fX5_queued a b X = some q ∧ fX6_queued a b M = some q
def St_atWorker (Rel : Nat → RS → MS → Prop) : Prop := ∀ (n : Nat) (X : RS) (M : MS), n < 512 → Rel n X M → ∀ a b : Int32, a = 0 ∨ a = 1 → ∃ q, fX5_atWorker a b X = some q ∧ fX6_atWorker a b M = some q
def St_window (Rel : Nat → RS → MS → Prop) : Prop := ∀ (n : Nat) (X : RS) (M : MS), n < 512 → Rel n X M → ∀ a b : Int32, ∃ q, fX5_window a b X = some q ∧ fX6_window a b M = some q
def St_quiet (Rel : Nat → RS → MS → Prop) : Prop := ∀ (n : Nat) (X : RS) (M : MS), n < 512 → Rel n X M → ∀ a : Int32, ∃ q, fX5_quiet a X = some q ∧ fX6_quiet a M = some q
def St_recovery (Rel : Nat → RS → MS → Prop) : Prop := ∀ (n : Nat) (X : RS) (M : MS), n < 512 → Rel n X M → ∀ a b : Int32, ∃ q, fX5_recovery a b X = some q ∧ fX6_recovery a b M = some q
def St_amplification (Rel : Nat → RS → MS → Prop) : Prop := ∀ (n : Nat) (X : RS) (M : MS), n < 512 → Rel n X M → ∃ q, fX5_amplification  X = some q ∧ fX6_amplification  M = some q
def St_undo (Rel : Nat → RS → MS → Prop) : Prop := ∀ (n : Nat) (X : RS) (M : MS), n < 512 → Rel n X M → ∃ q r, fX5_undo  X = some q ∧ fX6_undo  M = some r ∧ q.1 = r.1 ∧ Rel (n + 1) q.2 r.2
def St_digest (Rel : Nat → RS → MS → Prop) : Prop := ∀ (n : Nat) (X : RS) (M : MS), n < 512 → Rel n X M → ∃ q, fX5_digest  X = some q ∧ fX6_digest  M = some q
def St_all (Rel : Nat → RS → MS → Prop) : Prop := (∀ (n : Nat) (X : RS) (M : MS), Rel n X M → Rel (n + 1) X M) ∧ St_set Rel ∧ St_property Rel ∧ St_setServer Rel ∧ St_setDiscipline Rel ∧ St_setSwitch Rel ∧ St_surge Rel ∧ St_run Rel ∧ St_ifRun Rel ∧ St_bestDiscipline Rel ∧ St_count Rel ∧ St_succeededAt Rel ∧ St_told Rel ∧ St_live Rel ∧ St_request Rel ∧ St_queued Rel ∧ St_atWorker Rel ∧ St_window Rel ∧ St_quiet Rel ∧ St_recovery Rel ∧ St_amplification Rel ∧ St_undo Rel ∧ St_digest Rel
theorem Mc.frameN {l : Launch} {D : va_G} {ty : List (ClassId × FieldType)} {z : Bool} {y : MethodName} {cc : ByteArray} {nL : Nat} {ret : Option FieldType} {d : Nat} {as : List Value} {wc wc1 w w1 fr : va_W} {v : Option Value} (h : Mc l D ty z y cc nL ret d as wc v wc1) (hw : w.Perm (wc ++ fr)) (hw1 : w1.Perm (wc1 ++ fr)) : Mc l D ty z y cc nL ret d as w v w1 := by
  intro sz
  have hAA : ∀ q, va_A wc sz q → va_A w sz q := fun q hq => by
    rcases va_A_mem.mp hq with hq | hq
    · exact va_A_mem.mpr (Or.inl ((hw.map Prod.fst).mem_iff.mpr (by rw [List.map_append]; exact List.mem_append_left _ hq)))
    · exact va_A_mem.mpr (Or.inr hq)
  refine (h sz).conseq ?_ ?_ hAA
  · rintro a s ⟨h1, h2, h3, h4, h5, h6⟩
    have h5' := va_D_nd.mp h5
    refine ⟨h1, h2, va_P_mem.mpr fun q hq => va_P_mem.mp h3 q (hw.mem_iff.mpr (List.mem_append_left _ hq)), h4, va_D_nd.mpr ⟨?_, fun _ _ => trivial⟩, fun hz => (h6 hz).narrow hAA⟩
    have := ((hw.map Prod.fst).nodup_iff.mp h5'.1)
    rw [List.map_append] at this
    exact (List.nodup_append.mp this).1
  · rintro a s o t ⟨-, h2, h3, h4, h5, -⟩ ⟨q1, ⟨q2, q3, q4⟩, q5⟩
    have h5' := va_D_nd.mp h5
    have q4' := va_D_nd.mp q4
    have hnd := ((hw.map Prod.fst).nodup_iff.mp h5'.1)
    rw [List.map_append] at hnd
    have hnd' := List.nodup_append.mp hnd
    have hfr : ∀ q ∈ fr, va_at D vwCl q s.heap := fun q hq => va_P_mem.mp h3 q (hw.mem_iff.mpr (List.mem_append_right _ hq))
    have hdis : ∀ q ∈ fr, ¬ va_A wc sz q.1 := fun q hq z => by
      rcases va_A_mem.mp z with z | z
      · exact hnd'.2.2 _ z _ (List.mem_map.mpr ⟨q, hq, rfl⟩) rfl
      · have := (hfr q hq).lt; omega
    refine ⟨q1, ⟨va_P_mem.mpr fun q hq => ?_, q3, va_D_nd.mpr ⟨(hw1.map Prod.fst).nodup_iff.mpr ?_, fun q hq => ?_⟩⟩, q5.1, fun q hq1 hq2 => q5.2 q hq1 (fun z => hq2 (hAA q z))⟩
    · rcases List.mem_append.mp (hw1.mem_iff.mp hq) with hq | hq
      · exact va_P_mem.mp q2 q hq
      · exact (hfr q hq).kept (q5.2 q.1 (hfr q hq).lt (hdis q hq))
    · rw [List.map_append]
      refine List.nodup_append.mpr ⟨q4'.1, hnd'.2.1, fun a ha b hb hab => ?_⟩
      subst hab
      obtain ⟨q, hq, rfl⟩ := List.mem_map.mp ha
      obtain ⟨q2, hq2, e3⟩ := List.mem_map.mp hb
      have h7 := q4'.2 q hq
      rw [← e3] at h7
      exact hdis q2 hq2 h7
    · rcases List.mem_append.mp (hw1.mem_iff.mp hq) with hq | hq
      · exact hAA _ (q4'.2 q hq)
      · exact va_A_mem.mpr (Or.inl (List.mem_map.mpr ⟨q, hw.mem_iff.mpr (List.mem_append_right _ hq), rfl⟩))
theorem Mc.atL {l : Launch} {D : va_G} {ty : List (ClassId × FieldType)} {z : Bool} {y : MethodName} {cc : ByteArray} {nL : Nat} {ret : Option FieldType} {d : Nat} {as : List Value} {wc wc1 : va_W} {v : Option Value} (h : Mc l D ty z y cc nL ret d as wc v wc1) (fr : va_W) : Mc l D ty z y cc nL ret d as (wc ++ fr) v (wc1 ++ fr) := h.frameN (List.Perm.refl _) (List.Perm.refl _)
theorem Mc.atR {l : Launch} {D : va_G} {ty : List (ClassId × FieldType)} {z : Bool} {y : MethodName} {cc : ByteArray} {nL : Nat} {ret : Option FieldType} {d : Nat} {as : List Value} {wc wc1 : va_W} {v : Option Value} (h : Mc l D ty z y cc nL ret d as wc v wc1) (fr : va_W) : Mc l D ty z y cc nL ret d as (fr ++ wc) v (fr ++ wc1) := h.frameN List.perm_append_comm List.perm_append_comm
