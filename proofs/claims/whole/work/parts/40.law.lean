/-! THE LAW: its loop over what class and reference answer alike (Rel: their relation after n calls) -/
def St_set (Rel : Nat → RS → MS → Prop) : Prop := ∀ (n : Nat) (X : RS) (M : MS), n < 512 → Rel n X M → ∀ a b c : Int32, ∃ q r, fX5_set a b c X = some q ∧ fX6_set a b c M = some r ∧ q.1 = r.1 ∧ Rel (n + 1) q.2 r.2
def St_property (Rel : Nat → RS → MS → Prop) : Prop := ∀ (n : Nat) (X : RS) (M : MS), n < 512 → Rel n X M → ∀ a b : Int32, ∃ q, fX5_property a b X = some q ∧ fX6_property a b M = some q
def St_setServer (Rel : Nat → RS → MS → Prop) : Prop := ∀ (n : Nat) (X : RS) (M : MS), n < 512 → Rel n X M → ∀ a b : Int32, ∃ q r, fX5_setServer a b X = some q ∧ fX6_setServer a b M = some r ∧ q.1 = r.1 ∧ Rel (n + 1) q.2 r.2
def St_setDiscipline (Rel : Nat → RS → MS → Prop) : Prop := ∀ (n : Nat) (X : RS) (M : MS), n < 512 → Rel n X M → ∀ a : Int32, ∃ q r, fX5_setDiscipline a X = some q ∧ fX6_setDiscipline a M = some r ∧ q.1 = r.1 ∧ Rel (n + 1) q.2 r.2
def St_setSwitch (Rel : Nat → RS → MS → Prop) : Prop := ∀ (n : Nat) (X : RS) (M : MS), n < 512 → Rel n X M → ∀ a b : Int32, b = 0 ∨ b = 1 → ∃ q r, fX5_setSwitch a b X = some q ∧ fX6_setSwitch a b M = some r ∧ q.1 = r.1 ∧ Rel (n + 1) q.2 r.2
def St_surge (Rel : Nat → RS → MS → Prop) : Prop := ∀ (n : Nat) (X : RS) (M : MS), n < 512 → Rel n X M → ∀ a b c d : Int32, ∃ q r, fX5_surge a b c d X = some q ∧ fX6_surge a b c d M = some r ∧ q.1 = r.1 ∧ Rel (n + 1) q.2 r.2
def St_run (Rel : Nat → RS → MS → Prop) : Prop := ∀ (n : Nat) (X : RS) (M : MS), n < 512 → Rel n X M → ∀ a : Int32, ∃ q r, fX5_run a X = some q ∧ fX6_run a M = some r ∧ q.1 = r.1 ∧ Rel (n + 1) q.2 r.2
def St_ifRun (Rel : Nat → RS → MS → Prop) : Prop := ∀ (n : Nat) (X : RS) (M : MS), n < 512 → Rel n X M → ∀ a b : Int32, ∃ q r, fX5_ifRun a b X = some q ∧ fX6_ifRun a b M = some r ∧ q.1 = r.1 ∧ Rel (n + 1) q.2 r.2
def St_bestDiscipline (Rel : Nat → RS → MS → Prop) : Prop := ∀ (n : Nat) (X : RS) (M : MS), n < 512 → Rel n X M → ∀ a : Int32, ∃ q r, fX5_bestDiscipline a X = some q ∧ fX6_bestDiscipline a M = some r ∧ q.1 = r.1 ∧ Rel (n + 1) q.2 r.2
def St_count (Rel : Nat → RS → MS → Prop) : Prop := ∀ (n : Nat) (X : RS) (M : MS), n < 512 → Rel n X M → ∀ a b : Int32, ∃ q, fX5_count a b X = some q ∧ fX6_count a b M = some q
def St_succeededAt (Rel : Nat → RS → MS → Prop) : Prop := ∀ (n : Nat) (X : RS) (M : MS), n < 512 → Rel n X M → ∀ a b : Int32, ∃ q, fX5_succeededAt a b X = some q ∧ fX6_succeededAt a b M = some q
def St_told (Rel : Nat → RS → MS → Prop) : Prop := ∀ (n : Nat) (X : RS) (M : MS), n < 512 → Rel n X M → ∀ a : Int32, ∃ q, fX5_told a X = some q ∧ fX6_told a M = some q
def St_live (Rel : Nat → RS → MS → Prop) : Prop := ∀ (n : Nat) (X : RS) (M : MS), n < 512 → Rel n X M → ∀ a : Int32, ∃ q, fX5_live a X = some q ∧ fX6_live a M = some q
def St_request (Rel : Nat → RS → MS → Prop) : Prop := ∀ (n : Nat) (X : RS) (M : MS), n < 512 → Rel n X M → ∀ a b : Int32, ∃ q, fX5_request a b X = some q ∧ fX6_request a b M = some q
def St_queued (Rel : Nat → RS → MS → Prop) : Prop := ∀ (n : Nat) (X : RS) (M : MS), n < 512 → Rel n X M → ∀ a b : Int32, a = 0 ∨ a = 1 → ∃ q, fX5_queued a b X = some q ∧ fX6_queued a b M = some q
def St_atWorker (Rel : Nat → RS → MS → Prop) : Prop := ∀ (n : Nat) (X : RS) (M : MS), n < 512 → Rel n X M → ∀ a b : Int32, a = 0 ∨ a = 1 → ∃ q, fX5_atWorker a b X = some q ∧ fX6_atWorker a b M = some q
def St_window (Rel : Nat → RS → MS → Prop) : Prop := ∀ (n : Nat) (X : RS) (M : MS), n < 512 → Rel n X M → ∀ a b : Int32, ∃ q, fX5_window a b X = some q ∧ fX6_window a b M = some q
def St_quiet (Rel : Nat → RS → MS → Prop) : Prop := ∀ (n : Nat) (X : RS) (M : MS), n < 512 → Rel n X M → ∀ a : Int32, ∃ q, fX5_quiet a X = some q ∧ fX6_quiet a M = some q
def St_recovery (Rel : Nat → RS → MS → Prop) : Prop := ∀ (n : Nat) (X : RS) (M : MS), n < 512 → Rel n X M → ∀ a b : Int32, ∃ q, fX5_recovery a b X = some q ∧ fX6_recovery a b M = some q
def St_amplification (Rel : Nat → RS → MS → Prop) : Prop := ∀ (n : Nat) (X : RS) (M : MS), n < 512 → Rel n X M → ∃ q, fX5_amplification  X = some q ∧ fX6_amplification  M = some q
def St_undo (Rel : Nat → RS → MS → Prop) : Prop := ∀ (n : Nat) (X : RS) (M : MS), n < 512 → Rel n X M → ∃ q r, fX5_undo  X = some q ∧ fX6_undo  M = some r ∧ q.1 = r.1 ∧ Rel (n + 1) q.2 r.2
def St_digest (Rel : Nat → RS → MS → Prop) : Prop := ∀ (n : Nat) (X : RS) (M : MS), n < 512 → Rel n X M → ∃ q, fX5_digest  X = some q ∧ fX6_digest  M = some q
def St_all (Rel : Nat → RS → MS → Prop) : Prop := (∀ (n : Nat) (X : RS) (M : MS), Rel n X M → Rel (n + 1) X M) ∧ St_set Rel ∧ St_property Rel ∧ St_setServer Rel ∧ St_setDiscipline Rel ∧ St_setSwitch Rel ∧ St_surge Rel ∧ St_run Rel ∧ St_ifRun Rel ∧ St_bestDiscipline Rel ∧ St_count Rel ∧ St_succeededAt Rel ∧ St_told Rel ∧ St_live Rel ∧ St_request Rel ∧ St_queued Rel ∧ St_atWorker Rel ∧ St_window Rel ∧ St_quiet Rel ∧ St_recovery Rel ∧ St_amplification Rel ∧ St_undo Rel ∧ St_digest Rel
/-- the frame, where the callee's cells may come back under other names -/
theorem Mc.frameN {l : Launch} {D : va_G} {ty : List (ClassId × FieldType)} {z : Bool} {y : MethodName} {cc : ByteArray} {nL : Nat} {ret : Option FieldType} {d : Nat} {as : List Value} {wc wc1 w w1 fr : va_W} {v : Option Value} (h : Mc l D ty z y cc nL ret d as wc v wc1) (hw : w.Perm (wc ++ fr)) (hw1 : w1.Perm (wc1 ++ fr)) : Mc l D ty z y cc nL ret d as w v w1 := by
  intro sz
  have hAA : ∀ q, va_A wc sz q → va_A w sz q := fun q hq => by
    rcases va_A_mem.mp hq with hq | hq
    · exact va_A_mem.mpr (Or.inl ((hw.map Prod.fst).mem_iff.mpr (by rw [List.map_append]; exact List.mem_append_left _ hq)))
    · exact va_A_mem.mpr (Or.inr hq)
  refine (h sz).conseq ?_ ?_ hAA
  · rintro a s ⟨h1, h2, h3, h4, h5, h6⟩
    have h5' := va_D_nd.mp h5
    refine ⟨h1, h2, va_P_mem.mpr fun q hq => va_P_mem.mp h3 q (hw.mem_iff.mpr (List.mem_append_left _ hq)), h4, va_D_nd.mpr ⟨?_, fun _ _ => trivial⟩, fun hz => (h6 hz).narrow hAA⟩
    have := ((hw.map Prod.fst).nodup_iff.mp h5'.1)
    rw [List.map_append] at this
    exact (List.nodup_append.mp this).1
  · rintro a s o t ⟨-, h2, h3, h4, h5, -⟩ ⟨q1, ⟨q2, q3, q4⟩, q5⟩
    have h5' := va_D_nd.mp h5
    have q4' := va_D_nd.mp q4
    have hnd := ((hw.map Prod.fst).nodup_iff.mp h5'.1)
    rw [List.map_append] at hnd
    have hnd' := List.nodup_append.mp hnd
    have hfr : ∀ q ∈ fr, va_at D vwCl q s.heap := fun q hq => va_P_mem.mp h3 q (hw.mem_iff.mpr (List.mem_append_right _ hq))
    have hdis : ∀ q ∈ fr, ¬ va_A wc sz q.1 := fun q hq z => by
      rcases va_A_mem.mp z with z | z
      · exact hnd'.2.2 _ z _ (List.mem_map.mpr ⟨q, hq, rfl⟩) rfl
      · have := (hfr q hq).lt; omega
    refine ⟨q1, ⟨va_P_mem.mpr fun q hq => ?_, q3, va_D_nd.mpr ⟨(hw1.map Prod.fst).nodup_iff.mpr ?_, fun q hq => ?_⟩⟩, q5.1, fun q hq1 hq2 => q5.2 q hq1 (fun z => hq2 (hAA q z))⟩
    · rcases List.mem_append.mp (hw1.mem_iff.mp hq) with hq | hq
      · exact va_P_mem.mp q2 q hq
      · exact (hfr q hq).kept (q5.2 q.1 (hfr q hq).lt (hdis q hq))
    · rw [List.map_append]
      refine List.nodup_append.mpr ⟨q4'.1, hnd'.2.1, fun a ha b hb hab => ?_⟩
      subst hab
      obtain ⟨q, hq, rfl⟩ := List.mem_map.mp ha
      obtain ⟨q2, hq2, e3⟩ := List.mem_map.mp hb
      have h7 := q4'.2 q hq
      rw [← e3] at h7
      exact hdis q2 hq2 h7
    · rcases List.mem_append.mp (hw1.mem_iff.mp hq) with hq | hq
      · exact hAA _ (q4'.2 q hq)
      · exact va_A_mem.mpr (Or.inl (List.mem_map.mpr ⟨q, hw.mem_iff.mpr (List.mem_append_right _ hq), rfl⟩))
theorem Mc.atL {l : Launch} {D : va_G} {ty : List (ClassId × FieldType)} {z : Bool} {y : MethodName} {cc : ByteArray} {nL : Nat} {ret : Option FieldType} {d : Nat} {as : List Value} {wc wc1 : va_W} {v : Option Value} (h : Mc l D ty z y cc nL ret d as wc v wc1) (fr : va_W) : Mc l D ty z y cc nL ret d as (wc ++ fr) v (wc1 ++ fr) := h.frameN (List.Perm.refl _) (List.Perm.refl _)
theorem Mc.atR {l : Launch} {D : va_G} {ty : List (ClassId × FieldType)} {z : Bool} {y : MethodName} {cc : ByteArray} {nL : Nat} {ret : Option FieldType} {d : Nat} {as : List Value} {wc wc1 : va_W} {v : Option Value} (h : Mc l D ty z y cc nL ret d as wc v wc1) (fr : va_W) : Mc l D ty z y cc nL ret d as (fr ++ wc) v (fr ++ wc1) := h.frameN List.perm_append_comm List.perm_append_comm
/-- the two systems -/
def wL (cI cS : ClassId) (aR aM : Nat → Nat) (X : RS) (M : MS) : va_W := wR cI cS aR X ++ wM cI aM M
set_option maxRecDepth 100000 in
theorem wR_adr (cI cS : ClassId) (aR : Nat → Nat) (X : RS) : (wR cI cS aR X).length = 140 := rfl
def mF (aM : Nat → Nat) (S : MS) : List Value := [.ref (aM 1), .int (S.2.2 1), .ref (aM 2), .ref (aM 3), .ref (aM 4), .int (S.2.2 5), .int (S.2.2 6), .int (S.2.2 7), .int (S.2.2 8), .ref (aM 5)]
theorem wL_recv (cI cS : ClassId) (aR aM : Nat → Nat) (X : RS) (M : MS) : (wL cI cS aR aM X M)[140]? = some (aM 0, .inr (3, mF aM M)) := by
  unfold wL
  rw [List.getElem?_append_right (by rw [wR_adr]; exact Nat.le_refl _), wR_adr]
  rfl
section XL
variable {p : Program} {l : Launch} {e : Env} {R : Room} {s : State} {m : MethodId} {args : Array Value} {below : List Frame} {meth : Method} {c : Code} {H : Heap} {locs : List Loc} {cells slots : Nat} {Q : State → Prop} {own : String} {cc : ByteArray} {nL : Nat} {ret : Option FieldType} {D : va_G} {ty : List (ClassId × FieldType)} {pc index : Nat} {ls : Array Slot} {rest : List Value} {A : Nat → Prop} {H0 : Heap}
theorem x_sld (C : Cx p s m args meth c own cc nL ret D ty) {b L : Nat} {xs : Nat → Int32} (hX : va_X b L xs s s.heap) (hbl : b < s.heap.size) (hbA : ¬ A b) (hS : va_S A s.heap H locs) {i : Int32} (hin : okI i L) (hdg : decode cc pc = .ok (.iaload, 1))
    (kk : W p l e R s m args below meth c H locs cells slots Q (F0 m (pc + 1) ls (.int (xs i.toNatClampNeg) :: rest))) : W p l e R s m args below meth c H locs cells slots Q (F0 m pc ls (.int i :: .ref b :: rest)) := va_sld C.1 C.2.1 hX hbl hbA hS hin hdg kk
theorem x_slen (C : Cx p s m args meth c own cc nL ret D ty) {b L : Nat} {xs : Nat → Int32} (hX : va_X b L xs s s.heap) (hbl : b < s.heap.size) (hbA : ¬ A b) (hS : va_S A s.heap H locs) (hdg : decode cc pc = .ok (.arraylength, 1))
    (kk : W p l e R s m args below meth c H locs cells slots Q (F0 m (pc + 1) ls (.int (nI L) :: rest))) : W p l e R s m args below meth c H locs cells slots Q (F0 m pc ls (.ref b :: rest)) := va_slen C.1 C.2.1 hX hbl hbA hS hdg kk
theorem x_eqK (C : Cx p s m args meth c own cc nL ret D ty) {x y : Int32} {off : Int} {tgt : Nat} (hc : x = y) (hdg : decode cc pc = .ok (.if_icmp .eq off, 3)) (ht : (pc : Int) + off = (tgt : Int)) (kk : W p l e R s m args below meth c H locs cells slots Q (F0 m tgt ls rest)) : W p l e R s m args below meth c H locs cells slots Q (F0 m pc ls (.int y :: .int x :: rest)) := lv_icmp_eq C.1 C.2.1 hdg ht (fun _ => kk) (fun h => absurd hc h)
theorem x_zeroK (C : Cx p s m args meth c own cc nL ret D ty) {x : Int32} {off : Int} {tgt : Nat} (hc : x = 0) (hdg : decode cc pc = .ok (.ifCond .eq off, 3)) (ht : (pc : Int) + off = (tgt : Int)) (kk : W p l e R s m args below meth c H locs cells slots Q (F0 m tgt ls rest)) : W p l e R s m args below meth c H locs cells slots Q (F0 m pc ls (.int x :: rest)) := lv_if_eq C.1 C.2.1 hdg ht (fun _ => kk) (fun h => absurd hc h)
theorem x_nzK (C : Cx p s m args meth c own cc nL ret D ty) {x : Int32} {off : Int} {tgt : Nat} (hc : ¬ x = 0) (hdg : decode cc pc = .ok (.ifCond .eq off, 3)) (ht : (pc : Int) + off = (tgt : Int)) (kk : W p l e R s m args below meth c H locs cells slots Q (F0 m (pc + 3) ls rest)) : W p l e R s m args below meth c H locs cells slots Q (F0 m pc ls (.int x :: rest)) := lv_if_eq C.1 C.2.1 hdg ht (fun h => absurd h hc) (fun _ => kk)
theorem x_gtK (C : Cx p s m args meth c own cc nL ret D ty) {x y : Int32} {off : Int} {tgt : Nat} (hdg : decode cc pc = .ok (.if_icmp .gt off, 3)) (ht : (pc : Int) + off = (tgt : Int)) (kt : y < x → W p l e R s m args below meth c H locs cells slots Q (F0 m tgt ls rest)) (kf : ¬ y < x → W p l e R s m args below meth c H locs cells slots Q (F0 m (pc + 3) ls rest)) : W p l e R s m args below meth c H locs cells slots Q (F0 m pc ls (.int y :: .int x :: rest)) := lv_icmp_gt C.1 C.2.1 hdg ht kt kf
end XL
theorem dL_law_136 : decode cL_law 136 = .ok (.aload_n 1, 1) := by decide +kernel
theorem dL_law_137 : decode cL_law 137 = .ok (.aload_n 0, 1) := by decide +kernel
theorem dL_law_138 : decode cL_law 138 = .ok (.iload_n 3, 1) := by decide +kernel
theorem dL_law_139 : decode cL_law 139 = .ok (.iconst 1, 1) := by decide +kernel
theorem dL_law_140 : decode cL_law 140 = .ok (.iadd, 1) := by decide +kernel
theorem dL_law_141 : decode cL_law 141 = .ok (.iaload, 1) := by decide +kernel
theorem dL_law_142 : decode cL_law 142 = .ok (.aload_n 0, 1) := by decide +kernel
theorem dL_law_143 : decode cL_law 143 = .ok (.iload_n 3, 1) := by decide +kernel
theorem dL_law_144 : decode cL_law 144 = .ok (.iconst 2, 1) := by decide +kernel
theorem dL_law_145 : decode cL_law 145 = .ok (.iadd, 1) := by decide +kernel
theorem dL_law_146 : decode cL_law 146 = .ok (.iaload, 1) := by decide +kernel
theorem dL_law_147 : decode cL_law 147 = .ok (.aload_n 0, 1) := by decide +kernel
theorem dL_law_148 : decode cL_law 148 = .ok (.iload_n 3, 1) := by decide +kernel
theorem dL_law_149 : decode cL_law 149 = .ok (.iconst 3, 1) := by decide +kernel
theorem dL_law_150 : decode cL_law 150 = .ok (.iadd, 1) := by decide +kernel
theorem dL_law_151 : decode cL_law 151 = .ok (.iaload, 1) := by decide +kernel
theorem dL_law_152 : decode cL_law 152 = .ok (.invokevirtual 13, 3) := by decide +kernel
theorem dL_law_155 : decode cL_law 155 = .ok (.aload_n 2, 1) := by decide +kernel
theorem dL_law_156 : decode cL_law 156 = .ok (.aload_n 0, 1) := by decide +kernel
theorem dL_law_157 : decode cL_law 157 = .ok (.iload_n 3, 1) := by decide +kernel
theorem dL_law_158 : decode cL_law 158 = .ok (.iconst 1, 1) := by decide +kernel
theorem dL_law_159 : decode cL_law 159 = .ok (.iadd, 1) := by decide +kernel
theorem dL_law_160 : decode cL_law 160 = .ok (.iaload, 1) := by decide +kernel
theorem dL_law_161 : decode cL_law 161 = .ok (.aload_n 0, 1) := by decide +kernel
theorem dL_law_162 : decode cL_law 162 = .ok (.iload_n 3, 1) := by decide +kernel
theorem dL_law_163 : decode cL_law 163 = .ok (.iconst 2, 1) := by decide +kernel
theorem dL_law_164 : decode cL_law 164 = .ok (.iadd, 1) := by decide +kernel
theorem dL_law_165 : decode cL_law 165 = .ok (.iaload, 1) := by decide +kernel
theorem dL_law_166 : decode cL_law 166 = .ok (.aload_n 0, 1) := by decide +kernel
theorem dL_law_167 : decode cL_law 167 = .ok (.iload_n 3, 1) := by decide +kernel
theorem dL_law_168 : decode cL_law 168 = .ok (.iconst 3, 1) := by decide +kernel
theorem dL_law_169 : decode cL_law 169 = .ok (.iadd, 1) := by decide +kernel
theorem dL_law_170 : decode cL_law 170 = .ok (.iaload, 1) := by decide +kernel
theorem dL_law_171 : decode cL_law 171 = .ok (.invokevirtual 17, 3) := by decide +kernel
theorem dL_law_174 : decode cL_law 174 = .ok (.if_icmp .eq 647, 3) := by decide +kernel
theorem dL_law_177 : decode cL_law 177 = .ok (.iconst 0, 1) := by decide +kernel
theorem dL_law_178 : decode cL_law 178 = .ok (.ireturn, 1) := by decide +kernel
set_option maxHeartbeats 4000000 in
set_option maxRecDepth 100000 in
theorem law_set {p : Program} {l : Launch} {e : Env} {s : State} {m : MethodId} {below : List Frame} {meth : Method} {c : Code} {A : Nat → Prop} {Q : State → Prop} {D : va_G} {cI cS : ClassId} {b L : Nat} {xs : Nat → Int32} {aR aM : Nat → Nat} {retL : Option FieldType} (C : Cx p s m #[Value.ref b] meth c RL cL_law 4 retL D (tyL cI cS)) (hA : ∀ q, s.heap.size ≤ q → A q) (hz : ZZ A s s.heap) (hX : va_X b L xs s s.heap) (hbl : b < s.heap.size) (hbA : ¬ A b) {Rel : Nat → RS → MS → Prop} (hs : St_set Rel) (hm : ∀ (n : Nat) (X : RS) (M : MS), Rel n X M → Rel (n + 1) X M) {n : Nat} (hn : n < 512) {x3 : Int32} (i1 : okI (x3 + (1 : Int32)) L) (i2 : okI (x3 + (2 : Int32)) L) (i3 : okI (x3 + (3 : Int32)) L) (TAIL : ∀ (X : RS) (M : MS), Rel (n + 1) X M → ∀ (H : Heap) (locs : List Loc) (ls : Array Slot), va_P D vwCl (wL cI cS aR aM X M) H → va_D A (wL cI cS aR aM X M) → va_S A s.heap H locs → lv_has ls 4 [(0, .ref b), (1, .ref (aR 0)), (2, .ref (aM 0)), (3, .int x3)] → W p l e room_1 s m #[Value.ref b] below meth c H locs 146 9640 Q (F0 m 821 ls [])) (X : RS) (M : MS) (hr : Rel n X M) (H : Heap) (locs : List Loc) (ls : Array Slot) (hP : va_P D vwCl (wL cI cS aR aM X M) H) (hD : va_D A (wL cI cS aR aM X M)) (hS : va_S A s.heap H locs) (hl : lv_has ls 4 [(0, .ref b), (1, .ref (aR 0)), (2, .ref (aM 0)), (3, .int x3)]) : W p l e room_1 s m #[Value.ref b] below meth c H locs 146 9640 Q (F0 m 136 ls []) := by
  obtain ⟨q, r, hq, hq2, hqr, hrel⟩ := hs n X M hn hr (xs (x3 + (1 : Int32)).toNatClampNeg) (xs (x3 + (2 : Int32)).toNatClampNeg) (xs (x3 + (3 : Int32)).toNatClampNeg)
  refine x_aload_n C dL_law_136 rfl hl 1 rfl ?_
  refine x_aload_n C dL_law_137 rfl hl 0 rfl ?_
  refine x_iload_n C dL_law_138 rfl hl 3 rfl ?_
  refine x_iconst (v := (1 : Int32)) C dL_law_139 (by decide) ?_
  refine x_iadd C dL_law_140 ?_
  refine x_sld C hX hbl hbA hS i1 dL_law_141 ?_
  refine x_aload_n C dL_law_142 rfl hl 0 rfl ?_
  refine x_iload_n C dL_law_143 rfl hl 3 rfl ?_
  refine x_iconst (v := (2 : Int32)) C dL_law_144 (by decide) ?_
  refine x_iadd C dL_law_145 ?_
  refine x_sld C hX hbl hbA hS i2 dL_law_146 ?_
  refine x_aload_n C dL_law_147 rfl hl 0 rfl ?_
  refine x_iload_n C dL_law_148 rfl hl 3 rfl ?_
  refine x_iconst (v := (3 : Int32)) C dL_law_149 (by decide) ?_
  refine x_iadd C dL_law_150 ?_
  refine x_sld C hX hbl hbA hS i3 dL_law_151 ?_
  refine x_callV (As := [.int _, .int _, .int _]) (n := 3) C (Mc.atL (kX5_set l D cI cS aR _ _ _ X hq) (wM cI aM M)) (fun _ => hz) wm_L_13 wi_X5_set we_X5_set wz_X5 wc_X5_set (by decide +kernel) rfl hP hD hS hA 0 2 rfl rfl rfl hl.1 dL_law_152 rfl (Nat.le_of_ble_eq_true rfl) ⟨Nat.le_of_ble_eq_true rfl, Nat.le_of_ble_eq_true rfl⟩ ⟨Nat.le_of_ble_eq_true rfl, Nat.le_of_ble_eq_true rfl⟩ (fun H locs hP hD hS => ?_)
  refine x_aload_n C dL_law_155 rfl hl 2 rfl ?_
  refine x_aload_n C dL_law_156 rfl hl 0 rfl ?_
  refine x_iload_n C dL_law_157 rfl hl 3 rfl ?_
  refine x_iconst (v := (1 : Int32)) C dL_law_158 (by decide) ?_
  refine x_iadd C dL_law_159 ?_
  refine x_sld C hX hbl hbA hS i1 dL_law_160 ?_
  refine x_aload_n C dL_law_161 rfl hl 0 rfl ?_
  refine x_iload_n C dL_law_162 rfl hl 3 rfl ?_
  refine x_iconst (v := (2 : Int32)) C dL_law_163 (by decide) ?_
  refine x_iadd C dL_law_164 ?_
  refine x_sld C hX hbl hbA hS i2 dL_law_165 ?_
  refine x_aload_n C dL_law_166 rfl hl 0 rfl ?_
  refine x_iload_n C dL_law_167 rfl hl 3 rfl ?_
  refine x_iconst (v := (3 : Int32)) C dL_law_168 (by decide) ?_
  refine x_iadd C dL_law_169 ?_
  refine x_sld C hX hbl hbA hS i3 dL_law_170 ?_
  refine x_callV (As := [.int _, .int _, .int _]) (n := 3) C (Mc.atR (kX6_set l D cI cS aM _ _ _ M hq2) (wR cI cS aR q.2)) (fun hh => nomatch hh) wm_L_17 wi_X6_set we_X6_set wz_X6 wc_X6_set (by decide +kernel) rfl hP hD hS hA 140 3 (wL_recv cI cS aR aM q.2 M) rfl rfl hl.1 dL_law_171 rfl (Nat.le_of_ble_eq_true rfl) ⟨Nat.le_of_ble_eq_true rfl, Nat.le_of_ble_eq_true rfl⟩ ⟨Nat.le_of_ble_eq_true rfl, Nat.le_of_ble_eq_true rfl⟩ (fun H locs hP hD hS => ?_)
  refine x_eqK (tgt := 821) C hqr dL_law_174 (by decide) ?_
  exact TAIL _ _ hrel _ _ _ hP hD hS hl
theorem dL_law_179 : decode cL_law 179 = .ok (.aload_n 1, 1) := by decide +kernel
theorem dL_law_180 : decode cL_law 180 = .ok (.aload_n 0, 1) := by decide +kernel
theorem dL_law_181 : decode cL_law 181 = .ok (.iload_n 3, 1) := by decide +kernel
theorem dL_law_182 : decode cL_law 182 = .ok (.iconst 1, 1) := by decide +kernel
theorem dL_law_183 : decode cL_law 183 = .ok (.iadd, 1) := by decide +kernel
theorem dL_law_184 : decode cL_law 184 = .ok (.iaload, 1) := by decide +kernel
theorem dL_law_185 : decode cL_law 185 = .ok (.aload_n 0, 1) := by decide +kernel
theorem dL_law_186 : decode cL_law 186 = .ok (.iload_n 3, 1) := by decide +kernel
theorem dL_law_187 : decode cL_law 187 = .ok (.iconst 2, 1) := by decide +kernel
theorem dL_law_188 : decode cL_law 188 = .ok (.iadd, 1) := by decide +kernel
theorem dL_law_189 : decode cL_law 189 = .ok (.iaload, 1) := by decide +kernel
theorem dL_law_190 : decode cL_law 190 = .ok (.invokevirtual 18, 3) := by decide +kernel
theorem dL_law_193 : decode cL_law 193 = .ok (.aload_n 2, 1) := by decide +kernel
theorem dL_law_194 : decode cL_law 194 = .ok (.aload_n 0, 1) := by decide +kernel
theorem dL_law_195 : decode cL_law 195 = .ok (.iload_n 3, 1) := by decide +kernel
theorem dL_law_196 : decode cL_law 196 = .ok (.iconst 1, 1) := by decide +kernel
theorem dL_law_197 : decode cL_law 197 = .ok (.iadd, 1) := by decide +kernel
theorem dL_law_198 : decode cL_law 198 = .ok (.iaload, 1) := by decide +kernel
theorem dL_law_199 : decode cL_law 199 = .ok (.aload_n 0, 1) := by decide +kernel
theorem dL_law_200 : decode cL_law 200 = .ok (.iload_n 3, 1) := by decide +kernel
theorem dL_law_201 : decode cL_law 201 = .ok (.iconst 2, 1) := by decide +kernel
theorem dL_law_202 : decode cL_law 202 = .ok (.iadd, 1) := by decide +kernel
theorem dL_law_203 : decode cL_law 203 = .ok (.iaload, 1) := by decide +kernel
theorem dL_law_204 : decode cL_law 204 = .ok (.invokevirtual 22, 3) := by decide +kernel
theorem dL_law_207 : decode cL_law 207 = .ok (.if_icmp .eq 614, 3) := by decide +kernel
theorem dL_law_210 : decode cL_law 210 = .ok (.iconst 0, 1) := by decide +kernel
theorem dL_law_211 : decode cL_law 211 = .ok (.ireturn, 1) := by decide +kernel
set_option maxHeartbeats 4000000 in
set_option maxRecDepth 100000 in
theorem law_property {p : Program} {l : Launch} {e : Env} {s : State} {m : MethodId} {below : List Frame} {meth : Method} {c : Code} {A : Nat → Prop} {Q : State → Prop} {D : va_G} {cI cS : ClassId} {b L : Nat} {xs : Nat → Int32} {aR aM : Nat → Nat} {retL : Option FieldType} (C : Cx p s m #[Value.ref b] meth c RL cL_law 4 retL D (tyL cI cS)) (hA : ∀ q, s.heap.size ≤ q → A q) (hz : ZZ A s s.heap) (hX : va_X b L xs s s.heap) (hbl : b < s.heap.size) (hbA : ¬ A b) {Rel : Nat → RS → MS → Prop} (hs : St_property Rel) (hm : ∀ (n : Nat) (X : RS) (M : MS), Rel n X M → Rel (n + 1) X M) {n : Nat} (hn : n < 512) {x3 : Int32} (i1 : okI (x3 + (1 : Int32)) L) (i2 : okI (x3 + (2 : Int32)) L) (TAIL : ∀ (X : RS) (M : MS), Rel (n + 1) X M → ∀ (H : Heap) (locs : List Loc) (ls : Array Slot), va_P D vwCl (wL cI cS aR aM X M) H → va_D A (wL cI cS aR aM X M) → va_S A s.heap H locs → lv_has ls 4 [(0, .ref b), (1, .ref (aR 0)), (2, .ref (aM 0)), (3, .int x3)] → W p l e room_1 s m #[Value.ref b] below meth c H locs 146 9640 Q (F0 m 821 ls [])) (X : RS) (M : MS) (hr : Rel n X M) (H : Heap) (locs : List Loc) (ls : Array Slot) (hP : va_P D vwCl (wL cI cS aR aM X M) H) (hD : va_D A (wL cI cS aR aM X M)) (hS : va_S A s.heap H locs) (hl : lv_has ls 4 [(0, .ref b), (1, .ref (aR 0)), (2, .ref (aM 0)), (3, .int x3)]) : W p l e room_1 s m #[Value.ref b] below meth c H locs 146 9640 Q (F0 m 179 ls []) := by
  obtain ⟨q, hq, hq2⟩ := hs n X M hn hr (xs (x3 + (1 : Int32)).toNatClampNeg) (xs (x3 + (2 : Int32)).toNatClampNeg)
  refine x_aload_n C dL_law_179 rfl hl 1 rfl ?_
  refine x_aload_n C dL_law_180 rfl hl 0 rfl ?_
  refine x_iload_n C dL_law_181 rfl hl 3 rfl ?_
  refine x_iconst (v := (1 : Int32)) C dL_law_182 (by decide) ?_
  refine x_iadd C dL_law_183 ?_
  refine x_sld C hX hbl hbA hS i1 dL_law_184 ?_
  refine x_aload_n C dL_law_185 rfl hl 0 rfl ?_
  refine x_iload_n C dL_law_186 rfl hl 3 rfl ?_
  refine x_iconst (v := (2 : Int32)) C dL_law_187 (by decide) ?_
  refine x_iadd C dL_law_188 ?_
  refine x_sld C hX hbl hbA hS i2 dL_law_189 ?_
  refine x_callV (As := [.int _, .int _]) (n := 2) C (Mc.atL (kX5_property l D cI cS aR _ _ X hq) (wM cI aM M)) (fun hh => nomatch hh) wm_L_18 wi_X5_property we_X5_property wz_X5 wc_X5_property (by decide +kernel) rfl hP hD hS hA 0 2 rfl rfl rfl hl.1 dL_law_190 rfl (Nat.le_of_ble_eq_true rfl) ⟨Nat.le_of_ble_eq_true rfl, Nat.le_of_ble_eq_true rfl⟩ ⟨Nat.le_of_ble_eq_true rfl, Nat.le_of_ble_eq_true rfl⟩ (fun H locs hP hD hS => ?_)
  refine x_aload_n C dL_law_193 rfl hl 2 rfl ?_
  refine x_aload_n C dL_law_194 rfl hl 0 rfl ?_
  refine x_iload_n C dL_law_195 rfl hl 3 rfl ?_
  refine x_iconst (v := (1 : Int32)) C dL_law_196 (by decide) ?_
  refine x_iadd C dL_law_197 ?_
  refine x_sld C hX hbl hbA hS i1 dL_law_198 ?_
  refine x_aload_n C dL_law_199 rfl hl 0 rfl ?_
  refine x_iload_n C dL_law_200 rfl hl 3 rfl ?_
  refine x_iconst (v := (2 : Int32)) C dL_law_201 (by decide) ?_
  refine x_iadd C dL_law_202 ?_
  refine x_sld C hX hbl hbA hS i2 dL_law_203 ?_
  refine x_callV (As := [.int _, .int _]) (n := 2) C (Mc.atR (kX6_property l D cI cS aM _ _ M hq2) (wR cI cS aR X)) (fun hh => nomatch hh) wm_L_22 wi_X6_property we_X6_property wz_X6 wc_X6_property (by decide +kernel) rfl hP hD hS hA 140 3 (wL_recv cI cS aR aM X M) rfl rfl hl.1 dL_law_204 rfl (Nat.le_of_ble_eq_true rfl) ⟨Nat.le_of_ble_eq_true rfl, Nat.le_of_ble_eq_true rfl⟩ ⟨Nat.le_of_ble_eq_true rfl, Nat.le_of_ble_eq_true rfl⟩ (fun H locs hP hD hS => ?_)
  refine x_eqK (tgt := 821) C rfl dL_law_207 (by decide) ?_
  exact TAIL _ _ (hm _ _ _ hr) _ _ _ hP hD hS hl
theorem dL_law_212 : decode cL_law 212 = .ok (.aload_n 1, 1) := by decide +kernel
theorem dL_law_213 : decode cL_law 213 = .ok (.aload_n 0, 1) := by decide +kernel
theorem dL_law_214 : decode cL_law 214 = .ok (.iload_n 3, 1) := by decide +kernel
theorem dL_law_215 : decode cL_law 215 = .ok (.iconst 1, 1) := by decide +kernel
theorem dL_law_216 : decode cL_law 216 = .ok (.iadd, 1) := by decide +kernel
theorem dL_law_217 : decode cL_law 217 = .ok (.iaload, 1) := by decide +kernel
theorem dL_law_218 : decode cL_law 218 = .ok (.aload_n 0, 1) := by decide +kernel
theorem dL_law_219 : decode cL_law 219 = .ok (.iload_n 3, 1) := by decide +kernel
theorem dL_law_220 : decode cL_law 220 = .ok (.iconst 2, 1) := by decide +kernel
theorem dL_law_221 : decode cL_law 221 = .ok (.iadd, 1) := by decide +kernel
theorem dL_law_222 : decode cL_law 222 = .ok (.iaload, 1) := by decide +kernel
theorem dL_law_223 : decode cL_law 223 = .ok (.invokevirtual 23, 3) := by decide +kernel
theorem dL_law_226 : decode cL_law 226 = .ok (.aload_n 2, 1) := by decide +kernel
theorem dL_law_227 : decode cL_law 227 = .ok (.aload_n 0, 1) := by decide +kernel
theorem dL_law_228 : decode cL_law 228 = .ok (.iload_n 3, 1) := by decide +kernel
theorem dL_law_229 : decode cL_law 229 = .ok (.iconst 1, 1) := by decide +kernel
theorem dL_law_230 : decode cL_law 230 = .ok (.iadd, 1) := by decide +kernel
theorem dL_law_231 : decode cL_law 231 = .ok (.iaload, 1) := by decide +kernel
theorem dL_law_232 : decode cL_law 232 = .ok (.aload_n 0, 1) := by decide +kernel
theorem dL_law_233 : decode cL_law 233 = .ok (.iload_n 3, 1) := by decide +kernel
theorem dL_law_234 : decode cL_law 234 = .ok (.iconst 2, 1) := by decide +kernel
theorem dL_law_235 : decode cL_law 235 = .ok (.iadd, 1) := by decide +kernel
theorem dL_law_236 : decode cL_law 236 = .ok (.iaload, 1) := by decide +kernel
theorem dL_law_237 : decode cL_law 237 = .ok (.invokevirtual 26, 3) := by decide +kernel
theorem dL_law_240 : decode cL_law 240 = .ok (.if_icmp .eq 581, 3) := by decide +kernel
theorem dL_law_243 : decode cL_law 243 = .ok (.iconst 0, 1) := by decide +kernel
theorem dL_law_244 : decode cL_law 244 = .ok (.ireturn, 1) := by decide +kernel
set_option maxHeartbeats 4000000 in
set_option maxRecDepth 100000 in
theorem law_setServer {p : Program} {l : Launch} {e : Env} {s : State} {m : MethodId} {below : List Frame} {meth : Method} {c : Code} {A : Nat → Prop} {Q : State → Prop} {D : va_G} {cI cS : ClassId} {b L : Nat} {xs : Nat → Int32} {aR aM : Nat → Nat} {retL : Option FieldType} (C : Cx p s m #[Value.ref b] meth c RL cL_law 4 retL D (tyL cI cS)) (hA : ∀ q, s.heap.size ≤ q → A q) (hz : ZZ A s s.heap) (hX : va_X b L xs s s.heap) (hbl : b < s.heap.size) (hbA : ¬ A b) {Rel : Nat → RS → MS → Prop} (hs : St_setServer Rel) (hm : ∀ (n : Nat) (X : RS) (M : MS), Rel n X M → Rel (n + 1) X M) {n : Nat} (hn : n < 512) {x3 : Int32} (i1 : okI (x3 + (1 : Int32)) L) (i2 : okI (x3 + (2 : Int32)) L) (TAIL : ∀ (X : RS) (M : MS), Rel (n + 1) X M → ∀ (H : Heap) (locs : List Loc) (ls : Array Slot), va_P D vwCl (wL cI cS aR aM X M) H → va_D A (wL cI cS aR aM X M) → va_S A s.heap H locs → lv_has ls 4 [(0, .ref b), (1, .ref (aR 0)), (2, .ref (aM 0)), (3, .int x3)] → W p l e room_1 s m #[Value.ref b] below meth c H locs 146 9640 Q (F0 m 821 ls [])) (X : RS) (M : MS) (hr : Rel n X M) (H : Heap) (locs : List Loc) (ls : Array Slot) (hP : va_P D vwCl (wL cI cS aR aM X M) H) (hD : va_D A (wL cI cS aR aM X M)) (hS : va_S A s.heap H locs) (hl : lv_has ls 4 [(0, .ref b), (1, .ref (aR 0)), (2, .ref (aM 0)), (3, .int x3)]) : W p l e room_1 s m #[Value.ref b] below meth c H locs 146 9640 Q (F0 m 212 ls []) := by
  obtain ⟨q, r, hq, hq2, hqr, hrel⟩ := hs n X M hn hr (xs (x3 + (1 : Int32)).toNatClampNeg) (xs (x3 + (2 : Int32)).toNatClampNeg)
  refine x_aload_n C dL_law_212 rfl hl 1 rfl ?_
  refine x_aload_n C dL_law_213 rfl hl 0 rfl ?_
  refine x_iload_n C dL_law_214 rfl hl 3 rfl ?_
  refine x_iconst (v := (1 : Int32)) C dL_law_215 (by decide) ?_
  refine x_iadd C dL_law_216 ?_
  refine x_sld C hX hbl hbA hS i1 dL_law_217 ?_
  refine x_aload_n C dL_law_218 rfl hl 0 rfl ?_
  refine x_iload_n C dL_law_219 rfl hl 3 rfl ?_
  refine x_iconst (v := (2 : Int32)) C dL_law_220 (by decide) ?_
  refine x_iadd C dL_law_221 ?_
  refine x_sld C hX hbl hbA hS i2 dL_law_222 ?_
  refine x_callV (As := [.int _, .int _]) (n := 2) C (Mc.atL (kX5_setServer l D cI cS aR _ _ X hq) (wM cI aM M)) (fun hh => nomatch hh) wm_L_23 wi_X5_setServer we_X5_setServer wz_X5 wc_X5_setServer (by decide +kernel) rfl hP hD hS hA 0 2 rfl rfl rfl hl.1 dL_law_223 rfl (Nat.le_of_ble_eq_true rfl) ⟨Nat.le_of_ble_eq_true rfl, Nat.le_of_ble_eq_true rfl⟩ ⟨Nat.le_of_ble_eq_true rfl, Nat.le_of_ble_eq_true rfl⟩ (fun H locs hP hD hS => ?_)
  refine x_aload_n C dL_law_226 rfl hl 2 rfl ?_
  refine x_aload_n C dL_law_227 rfl hl 0 rfl ?_
  refine x_iload_n C dL_law_228 rfl hl 3 rfl ?_
  refine x_iconst (v := (1 : Int32)) C dL_law_229 (by decide) ?_
  refine x_iadd C dL_law_230 ?_
  refine x_sld C hX hbl hbA hS i1 dL_law_231 ?_
  refine x_aload_n C dL_law_232 rfl hl 0 rfl ?_
  refine x_iload_n C dL_law_233 rfl hl 3 rfl ?_
  refine x_iconst (v := (2 : Int32)) C dL_law_234 (by decide) ?_
  refine x_iadd C dL_law_235 ?_
  refine x_sld C hX hbl hbA hS i2 dL_law_236 ?_
  refine x_callV (As := [.int _, .int _]) (n := 2) C (Mc.atR (kX6_setServer l D cI cS aM _ _ M hq2) (wR cI cS aR q.2)) (fun hh => nomatch hh) wm_L_26 wi_X6_setServer we_X6_setServer wz_X6 wc_X6_setServer (by decide +kernel) rfl hP hD hS hA 140 3 (wL_recv cI cS aR aM q.2 M) rfl rfl hl.1 dL_law_237 rfl (Nat.le_of_ble_eq_true rfl) ⟨Nat.le_of_ble_eq_true rfl, Nat.le_of_ble_eq_true rfl⟩ ⟨Nat.le_of_ble_eq_true rfl, Nat.le_of_ble_eq_true rfl⟩ (fun H locs hP hD hS => ?_)
  refine x_eqK (tgt := 821) C hqr dL_law_240 (by decide) ?_
  exact TAIL _ _ hrel _ _ _ hP hD hS hl
theorem dL_law_245 : decode cL_law 245 = .ok (.aload_n 1, 1) := by decide +kernel
theorem dL_law_246 : decode cL_law 246 = .ok (.aload_n 0, 1) := by decide +kernel
theorem dL_law_247 : decode cL_law 247 = .ok (.iload_n 3, 1) := by decide +kernel
theorem dL_law_248 : decode cL_law 248 = .ok (.iconst 1, 1) := by decide +kernel
theorem dL_law_249 : decode cL_law 249 = .ok (.iadd, 1) := by decide +kernel
theorem dL_law_250 : decode cL_law 250 = .ok (.iaload, 1) := by decide +kernel
theorem dL_law_251 : decode cL_law 251 = .ok (.invokevirtual 27, 3) := by decide +kernel
theorem dL_law_254 : decode cL_law 254 = .ok (.aload_n 2, 1) := by decide +kernel
theorem dL_law_255 : decode cL_law 255 = .ok (.aload_n 0, 1) := by decide +kernel
theorem dL_law_256 : decode cL_law 256 = .ok (.iload_n 3, 1) := by decide +kernel
theorem dL_law_257 : decode cL_law 257 = .ok (.iconst 1, 1) := by decide +kernel
theorem dL_law_258 : decode cL_law 258 = .ok (.iadd, 1) := by decide +kernel
theorem dL_law_259 : decode cL_law 259 = .ok (.iaload, 1) := by decide +kernel
theorem dL_law_260 : decode cL_law 260 = .ok (.invokevirtual 31, 3) := by decide +kernel
theorem dL_law_263 : decode cL_law 263 = .ok (.if_icmp .eq 558, 3) := by decide +kernel
theorem dL_law_266 : decode cL_law 266 = .ok (.iconst 0, 1) := by decide +kernel
theorem dL_law_267 : decode cL_law 267 = .ok (.ireturn, 1) := by decide +kernel
set_option maxHeartbeats 4000000 in
set_option maxRecDepth 100000 in
theorem law_setDiscipline {p : Program} {l : Launch} {e : Env} {s : State} {m : MethodId} {below : List Frame} {meth : Method} {c : Code} {A : Nat → Prop} {Q : State → Prop} {D : va_G} {cI cS : ClassId} {b L : Nat} {xs : Nat → Int32} {aR aM : Nat → Nat} {retL : Option FieldType} (C : Cx p s m #[Value.ref b] meth c RL cL_law 4 retL D (tyL cI cS)) (hA : ∀ q, s.heap.size ≤ q → A q) (hz : ZZ A s s.heap) (hX : va_X b L xs s s.heap) (hbl : b < s.heap.size) (hbA : ¬ A b) {Rel : Nat → RS → MS → Prop} (hs : St_setDiscipline Rel) (hm : ∀ (n : Nat) (X : RS) (M : MS), Rel n X M → Rel (n + 1) X M) {n : Nat} (hn : n < 512) {x3 : Int32} (i1 : okI (x3 + (1 : Int32)) L) (TAIL : ∀ (X : RS) (M : MS), Rel (n + 1) X M → ∀ (H : Heap) (locs : List Loc) (ls : Array Slot), va_P D vwCl (wL cI cS aR aM X M) H → va_D A (wL cI cS aR aM X M) → va_S A s.heap H locs → lv_has ls 4 [(0, .ref b), (1, .ref (aR 0)), (2, .ref (aM 0)), (3, .int x3)] → W p l e room_1 s m #[Value.ref b] below meth c H locs 146 9640 Q (F0 m 821 ls [])) (X : RS) (M : MS) (hr : Rel n X M) (H : Heap) (locs : List Loc) (ls : Array Slot) (hP : va_P D vwCl (wL cI cS aR aM X M) H) (hD : va_D A (wL cI cS aR aM X M)) (hS : va_S A s.heap H locs) (hl : lv_has ls 4 [(0, .ref b), (1, .ref (aR 0)), (2, .ref (aM 0)), (3, .int x3)]) : W p l e room_1 s m #[Value.ref b] below meth c H locs 146 9640 Q (F0 m 245 ls []) := by
  obtain ⟨q, r, hq, hq2, hqr, hrel⟩ := hs n X M hn hr (xs (x3 + (1 : Int32)).toNatClampNeg)
  refine x_aload_n C dL_law_245 rfl hl 1 rfl ?_
  refine x_aload_n C dL_law_246 rfl hl 0 rfl ?_
  refine x_iload_n C dL_law_247 rfl hl 3 rfl ?_
  refine x_iconst (v := (1 : Int32)) C dL_law_248 (by decide) ?_
  refine x_iadd C dL_law_249 ?_
  refine x_sld C hX hbl hbA hS i1 dL_law_250 ?_
  refine x_callV (As := [.int _]) (n := 1) C (Mc.atL (kX5_setDiscipline l D cI cS aR _ X hq) (wM cI aM M)) (fun hh => nomatch hh) wm_L_27 wi_X5_setDiscipline we_X5_setDiscipline wz_X5 wc_X5_setDiscipline (by decide +kernel) rfl hP hD hS hA 0 2 rfl rfl rfl hl.1 dL_law_251 rfl (Nat.le_of_ble_eq_true rfl) ⟨Nat.le_of_ble_eq_true rfl, Nat.le_of_ble_eq_true rfl⟩ ⟨Nat.le_of_ble_eq_true rfl, Nat.le_of_ble_eq_true rfl⟩ (fun H locs hP hD hS => ?_)
  refine x_aload_n C dL_law_254 rfl hl 2 rfl ?_
  refine x_aload_n C dL_law_255 rfl hl 0 rfl ?_
  refine x_iload_n C dL_law_256 rfl hl 3 rfl ?_
  refine x_iconst (v := (1 : Int32)) C dL_law_257 (by decide) ?_
  refine x_iadd C dL_law_258 ?_
  refine x_sld C hX hbl hbA hS i1 dL_law_259 ?_
  refine x_callV (As := [.int _]) (n := 1) C (Mc.atR (kX6_setDiscipline l D cI cS aM _ M hq2) (wR cI cS aR q.2)) (fun hh => nomatch hh) wm_L_31 wi_X6_setDiscipline we_X6_setDiscipline wz_X6 wc_X6_setDiscipline (by decide +kernel) rfl hP hD hS hA 140 3 (wL_recv cI cS aR aM q.2 M) rfl rfl hl.1 dL_law_260 rfl (Nat.le_of_ble_eq_true rfl) ⟨Nat.le_of_ble_eq_true rfl, Nat.le_of_ble_eq_true rfl⟩ ⟨Nat.le_of_ble_eq_true rfl, Nat.le_of_ble_eq_true rfl⟩ (fun H locs hP hD hS => ?_)
  refine x_eqK (tgt := 821) C hqr dL_law_263 (by decide) ?_
  exact TAIL _ _ hrel _ _ _ hP hD hS hl
theorem dL_law_268 : decode cL_law 268 = .ok (.aload_n 1, 1) := by decide +kernel
theorem dL_law_269 : decode cL_law 269 = .ok (.aload_n 0, 1) := by decide +kernel
theorem dL_law_270 : decode cL_law 270 = .ok (.iload_n 3, 1) := by decide +kernel
theorem dL_law_271 : decode cL_law 271 = .ok (.iconst 1, 1) := by decide +kernel
theorem dL_law_272 : decode cL_law 272 = .ok (.iadd, 1) := by decide +kernel
theorem dL_law_273 : decode cL_law 273 = .ok (.iaload, 1) := by decide +kernel
theorem dL_law_274 : decode cL_law 274 = .ok (.aload_n 0, 1) := by decide +kernel
theorem dL_law_275 : decode cL_law 275 = .ok (.iload_n 3, 1) := by decide +kernel
theorem dL_law_276 : decode cL_law 276 = .ok (.iconst 2, 1) := by decide +kernel
theorem dL_law_277 : decode cL_law 277 = .ok (.iadd, 1) := by decide +kernel
theorem dL_law_278 : decode cL_law 278 = .ok (.iaload, 1) := by decide +kernel
theorem dL_law_279 : decode cL_law 279 = .ok (.ifCond .eq 7, 3) := by decide +kernel
theorem dL_law_282 : decode cL_law 282 = .ok (.iconst 1, 1) := by decide +kernel
theorem dL_law_283 : decode cL_law 283 = .ok (.goto 4, 3) := by decide +kernel
theorem dL_law_286 : decode cL_law 286 = .ok (.iconst 0, 1) := by decide +kernel
theorem dL_law_287 : decode cL_law 287 = .ok (.invokevirtual 32, 3) := by decide +kernel
theorem dL_law_290 : decode cL_law 290 = .ok (.aload_n 2, 1) := by decide +kernel
theorem dL_law_291 : decode cL_law 291 = .ok (.aload_n 0, 1) := by decide +kernel
theorem dL_law_292 : decode cL_law 292 = .ok (.iload_n 3, 1) := by decide +kernel
theorem dL_law_293 : decode cL_law 293 = .ok (.iconst 1, 1) := by decide +kernel
theorem dL_law_294 : decode cL_law 294 = .ok (.iadd, 1) := by decide +kernel
theorem dL_law_295 : decode cL_law 295 = .ok (.iaload, 1) := by decide +kernel
theorem dL_law_296 : decode cL_law 296 = .ok (.aload_n 0, 1) := by decide +kernel
theorem dL_law_297 : decode cL_law 297 = .ok (.iload_n 3, 1) := by decide +kernel
theorem dL_law_298 : decode cL_law 298 = .ok (.iconst 2, 1) := by decide +kernel
theorem dL_law_299 : decode cL_law 299 = .ok (.iadd, 1) := by decide +kernel
theorem dL_law_300 : decode cL_law 300 = .ok (.iaload, 1) := by decide +kernel
theorem dL_law_301 : decode cL_law 301 = .ok (.ifCond .eq 7, 3) := by decide +kernel
theorem dL_law_304 : decode cL_law 304 = .ok (.iconst 1, 1) := by decide +kernel
theorem dL_law_305 : decode cL_law 305 = .ok (.goto 4, 3) := by decide +kernel
theorem dL_law_308 : decode cL_law 308 = .ok (.iconst 0, 1) := by decide +kernel
theorem dL_law_309 : decode cL_law 309 = .ok (.invokevirtual 36, 3) := by decide +kernel
theorem dL_law_312 : decode cL_law 312 = .ok (.if_icmp .eq 509, 3) := by decide +kernel
theorem dL_law_315 : decode cL_law 315 = .ok (.iconst 0, 1) := by decide +kernel
theorem dL_law_316 : decode cL_law 316 = .ok (.ireturn, 1) := by decide +kernel
set_option maxHeartbeats 4000000 in
set_option maxRecDepth 100000 in
theorem law_setSwitch {p : Program} {l : Launch} {e : Env} {s : State} {m : MethodId} {below : List Frame} {meth : Method} {c : Code} {A : Nat → Prop} {Q : State → Prop} {D : va_G} {cI cS : ClassId} {b L : Nat} {xs : Nat → Int32} {aR aM : Nat → Nat} {retL : Option FieldType} (C : Cx p s m #[Value.ref b] meth c RL cL_law 4 retL D (tyL cI cS)) (hA : ∀ q, s.heap.size ≤ q → A q) (hz : ZZ A s s.heap) (hX : va_X b L xs s s.heap) (hbl : b < s.heap.size) (hbA : ¬ A b) {Rel : Nat → RS → MS → Prop} (hs : St_setSwitch Rel) (hm : ∀ (n : Nat) (X : RS) (M : MS), Rel n X M → Rel (n + 1) X M) {n : Nat} (hn : n < 512) {x3 : Int32} (i1 : okI (x3 + (1 : Int32)) L) (i2 : okI (x3 + (2 : Int32)) L) (TAIL : ∀ (X : RS) (M : MS), Rel (n + 1) X M → ∀ (H : Heap) (locs : List Loc) (ls : Array Slot), va_P D vwCl (wL cI cS aR aM X M) H → va_D A (wL cI cS aR aM X M) → va_S A s.heap H locs → lv_has ls 4 [(0, .ref b), (1, .ref (aR 0)), (2, .ref (aM 0)), (3, .int x3)] → W p l e room_1 s m #[Value.ref b] below meth c H locs 146 9640 Q (F0 m 821 ls [])) (X : RS) (M : MS) (hr : Rel n X M) (H : Heap) (locs : List Loc) (ls : Array Slot) (hP : va_P D vwCl (wL cI cS aR aM X M) H) (hD : va_D A (wL cI cS aR aM X M)) (hS : va_S A s.heap H locs) (hl : lv_has ls 4 [(0, .ref b), (1, .ref (aR 0)), (2, .ref (aM 0)), (3, .int x3)]) : W p l e room_1 s m #[Value.ref b] below meth c H locs 146 9640 Q (F0 m 268 ls []) := by
  by_cases hb : (xs (x3 + (2 : Int32)).toNatClampNeg) = 0
  · obtain ⟨q, r, hq, hq2, hqr, hrel⟩ := hs n X M hn hr (xs (x3 + (1 : Int32)).toNatClampNeg) (0 : Int32) (Or.inl rfl)
    refine x_aload_n C dL_law_268 rfl hl 1 rfl ?_
    refine x_aload_n C dL_law_269 rfl hl 0 rfl ?_
    refine x_iload_n C dL_law_270 rfl hl 3 rfl ?_
    refine x_iconst (v := (1 : Int32)) C dL_law_271 (by decide) ?_
    refine x_iadd C dL_law_272 ?_
    refine x_sld C hX hbl hbA hS i1 dL_law_273 ?_
    refine x_aload_n C dL_law_274 rfl hl 0 rfl ?_
    refine x_iload_n C dL_law_275 rfl hl 3 rfl ?_
    refine x_iconst (v := (2 : Int32)) C dL_law_276 (by decide) ?_
    refine x_iadd C dL_law_277 ?_
    refine x_sld C hX hbl hbA hS i2 dL_law_278 ?_
    refine x_zeroK (tgt := 286) C hb dL_law_279 (by decide) ?_
    refine x_iconst (v := (0 : Int32)) C dL_law_286 (by decide) ?_
    refine x_callV (As := [.int _, .int _]) (n := 2) C (Mc.atL (kX5_setSwitch l D cI cS aR _ _ X hq) (wM cI aM M)) (fun hh => nomatch hh) wm_L_32 wi_X5_setSwitch we_X5_setSwitch wz_X5 wc_X5_setSwitch (by decide +kernel) rfl hP hD hS hA 0 2 rfl rfl rfl hl.1 dL_law_287 rfl (Nat.le_of_ble_eq_true rfl) ⟨Nat.le_of_ble_eq_true rfl, Nat.le_of_ble_eq_true rfl⟩ ⟨Nat.le_of_ble_eq_true rfl, Nat.le_of_ble_eq_true rfl⟩ (fun H locs hP hD hS => ?_)
    refine x_aload_n C dL_law_290 rfl hl 2 rfl ?_
    refine x_aload_n C dL_law_291 rfl hl 0 rfl ?_
    refine x_iload_n C dL_law_292 rfl hl 3 rfl ?_
    refine x_iconst (v := (1 : Int32)) C dL_law_293 (by decide) ?_
    refine x_iadd C dL_law_294 ?_
    refine x_sld C hX hbl hbA hS i1 dL_law_295 ?_
    refine x_aload_n C dL_law_296 rfl hl 0 rfl ?_
    refine x_iload_n C dL_law_297 rfl hl 3 rfl ?_
    refine x_iconst (v := (2 : Int32)) C dL_law_298 (by decide) ?_
    refine x_iadd C dL_law_299 ?_
    refine x_sld C hX hbl hbA hS i2 dL_law_300 ?_
    refine x_zeroK (tgt := 308) C hb dL_law_301 (by decide) ?_
    refine x_iconst (v := (0 : Int32)) C dL_law_308 (by decide) ?_
    refine x_callV (As := [.int _, .int _]) (n := 2) C (Mc.atR (kX6_setSwitch l D cI cS aM _ _ M hq2) (wR cI cS aR q.2)) (fun hh => nomatch hh) wm_L_36 wi_X6_setSwitch we_X6_setSwitch wz_X6 wc_X6_setSwitch (by decide +kernel) rfl hP hD hS hA 140 3 (wL_recv cI cS aR aM q.2 M) rfl rfl hl.1 dL_law_309 rfl (Nat.le_of_ble_eq_true rfl) ⟨Nat.le_of_ble_eq_true rfl, Nat.le_of_ble_eq_true rfl⟩ ⟨Nat.le_of_ble_eq_true rfl, Nat.le_of_ble_eq_true rfl⟩ (fun H locs hP hD hS => ?_)
    refine x_eqK (tgt := 821) C hqr dL_law_312 (by decide) ?_
    exact TAIL _ _ hrel _ _ _ hP hD hS hl
  · obtain ⟨q, r, hq, hq2, hqr, hrel⟩ := hs n X M hn hr (xs (x3 + (1 : Int32)).toNatClampNeg) (1 : Int32) (Or.inr rfl)
    refine x_aload_n C dL_law_268 rfl hl 1 rfl ?_
    refine x_aload_n C dL_law_269 rfl hl 0 rfl ?_
    refine x_iload_n C dL_law_270 rfl hl 3 rfl ?_
    refine x_iconst (v := (1 : Int32)) C dL_law_271 (by decide) ?_
    refine x_iadd C dL_law_272 ?_
    refine x_sld C hX hbl hbA hS i1 dL_law_273 ?_
    refine x_aload_n C dL_law_274 rfl hl 0 rfl ?_
    refine x_iload_n C dL_law_275 rfl hl 3 rfl ?_
    refine x_iconst (v := (2 : Int32)) C dL_law_276 (by decide) ?_
    refine x_iadd C dL_law_277 ?_
    refine x_sld C hX hbl hbA hS i2 dL_law_278 ?_
    refine x_nzK (tgt := 286) C hb dL_law_279 (by decide) ?_
    refine x_iconst (v := (1 : Int32)) C dL_law_282 (by decide) ?_
    refine x_goto (tgt := 287) C dL_law_283 (by decide) ?_
    refine x_callV (As := [.int _, .int _]) (n := 2) C (Mc.atL (kX5_setSwitch l D cI cS aR _ _ X hq) (wM cI aM M)) (fun hh => nomatch hh) wm_L_32 wi_X5_setSwitch we_X5_setSwitch wz_X5 wc_X5_setSwitch (by decide +kernel) rfl hP hD hS hA 0 2 rfl rfl rfl hl.1 dL_law_287 rfl (Nat.le_of_ble_eq_true rfl) ⟨Nat.le_of_ble_eq_true rfl, Nat.le_of_ble_eq_true rfl⟩ ⟨Nat.le_of_ble_eq_true rfl, Nat.le_of_ble_eq_true rfl⟩ (fun H locs hP hD hS => ?_)
    refine x_aload_n C dL_law_290 rfl hl 2 rfl ?_
    refine x_aload_n C dL_law_291 rfl hl 0 rfl ?_
    refine x_iload_n C dL_law_292 rfl hl 3 rfl ?_
    refine x_iconst (v := (1 : Int32)) C dL_law_293 (by decide) ?_
    refine x_iadd C dL_law_294 ?_
    refine x_sld C hX hbl hbA hS i1 dL_law_295 ?_
    refine x_aload_n C dL_law_296 rfl hl 0 rfl ?_
    refine x_iload_n C dL_law_297 rfl hl 3 rfl ?_
    refine x_iconst (v := (2 : Int32)) C dL_law_298 (by decide) ?_
    refine x_iadd C dL_law_299 ?_
    refine x_sld C hX hbl hbA hS i2 dL_law_300 ?_
    refine x_nzK (tgt := 308) C hb dL_law_301 (by decide) ?_
    refine x_iconst (v := (1 : Int32)) C dL_law_304 (by decide) ?_
    refine x_goto (tgt := 309) C dL_law_305 (by decide) ?_
    refine x_callV (As := [.int _, .int _]) (n := 2) C (Mc.atR (kX6_setSwitch l D cI cS aM _ _ M hq2) (wR cI cS aR q.2)) (fun hh => nomatch hh) wm_L_36 wi_X6_setSwitch we_X6_setSwitch wz_X6 wc_X6_setSwitch (by decide +kernel) rfl hP hD hS hA 140 3 (wL_recv cI cS aR aM q.2 M) rfl rfl hl.1 dL_law_309 rfl (Nat.le_of_ble_eq_true rfl) ⟨Nat.le_of_ble_eq_true rfl, Nat.le_of_ble_eq_true rfl⟩ ⟨Nat.le_of_ble_eq_true rfl, Nat.le_of_ble_eq_true rfl⟩ (fun H locs hP hD hS => ?_)
    refine x_eqK (tgt := 821) C hqr dL_law_312 (by decide) ?_
    exact TAIL _ _ hrel _ _ _ hP hD hS hl
theorem dL_law_317 : decode cL_law 317 = .ok (.aload_n 1, 1) := by decide +kernel
theorem dL_law_318 : decode cL_law 318 = .ok (.aload_n 0, 1) := by decide +kernel
theorem dL_law_319 : decode cL_law 319 = .ok (.iload_n 3, 1) := by decide +kernel
theorem dL_law_320 : decode cL_law 320 = .ok (.iconst 1, 1) := by decide +kernel
theorem dL_law_321 : decode cL_law 321 = .ok (.iadd, 1) := by decide +kernel
theorem dL_law_322 : decode cL_law 322 = .ok (.iaload, 1) := by decide +kernel
theorem dL_law_323 : decode cL_law 323 = .ok (.aload_n 0, 1) := by decide +kernel
theorem dL_law_324 : decode cL_law 324 = .ok (.iload_n 3, 1) := by decide +kernel
theorem dL_law_325 : decode cL_law 325 = .ok (.iconst 2, 1) := by decide +kernel
theorem dL_law_326 : decode cL_law 326 = .ok (.iadd, 1) := by decide +kernel
theorem dL_law_327 : decode cL_law 327 = .ok (.iaload, 1) := by decide +kernel
theorem dL_law_328 : decode cL_law 328 = .ok (.aload_n 0, 1) := by decide +kernel
theorem dL_law_329 : decode cL_law 329 = .ok (.iload_n 3, 1) := by decide +kernel
theorem dL_law_330 : decode cL_law 330 = .ok (.iconst 3, 1) := by decide +kernel
theorem dL_law_331 : decode cL_law 331 = .ok (.iadd, 1) := by decide +kernel
theorem dL_law_332 : decode cL_law 332 = .ok (.iaload, 1) := by decide +kernel
theorem dL_law_333 : decode cL_law 333 = .ok (.aload_n 0, 1) := by decide +kernel
theorem dL_law_334 : decode cL_law 334 = .ok (.iload_n 3, 1) := by decide +kernel
theorem dL_law_335 : decode cL_law 335 = .ok (.iconst 4, 1) := by decide +kernel
theorem dL_law_336 : decode cL_law 336 = .ok (.iadd, 1) := by decide +kernel
theorem dL_law_337 : decode cL_law 337 = .ok (.iaload, 1) := by decide +kernel
theorem dL_law_338 : decode cL_law 338 = .ok (.invokevirtual 37, 3) := by decide +kernel
theorem dL_law_341 : decode cL_law 341 = .ok (.aload_n 2, 1) := by decide +kernel
theorem dL_law_342 : decode cL_law 342 = .ok (.aload_n 0, 1) := by decide +kernel
theorem dL_law_343 : decode cL_law 343 = .ok (.iload_n 3, 1) := by decide +kernel
theorem dL_law_344 : decode cL_law 344 = .ok (.iconst 1, 1) := by decide +kernel
theorem dL_law_345 : decode cL_law 345 = .ok (.iadd, 1) := by decide +kernel
theorem dL_law_346 : decode cL_law 346 = .ok (.iaload, 1) := by decide +kernel
theorem dL_law_347 : decode cL_law 347 = .ok (.aload_n 0, 1) := by decide +kernel
theorem dL_law_348 : decode cL_law 348 = .ok (.iload_n 3, 1) := by decide +kernel
theorem dL_law_349 : decode cL_law 349 = .ok (.iconst 2, 1) := by decide +kernel
theorem dL_law_350 : decode cL_law 350 = .ok (.iadd, 1) := by decide +kernel
theorem dL_law_351 : decode cL_law 351 = .ok (.iaload, 1) := by decide +kernel
theorem dL_law_352 : decode cL_law 352 = .ok (.aload_n 0, 1) := by decide +kernel
theorem dL_law_353 : decode cL_law 353 = .ok (.iload_n 3, 1) := by decide +kernel
theorem dL_law_354 : decode cL_law 354 = .ok (.iconst 3, 1) := by decide +kernel
theorem dL_law_355 : decode cL_law 355 = .ok (.iadd, 1) := by decide +kernel
theorem dL_law_356 : decode cL_law 356 = .ok (.iaload, 1) := by decide +kernel
theorem dL_law_357 : decode cL_law 357 = .ok (.aload_n 0, 1) := by decide +kernel
theorem dL_law_358 : decode cL_law 358 = .ok (.iload_n 3, 1) := by decide +kernel
theorem dL_law_359 : decode cL_law 359 = .ok (.iconst 4, 1) := by decide +kernel
theorem dL_law_360 : decode cL_law 360 = .ok (.iadd, 1) := by decide +kernel
theorem dL_law_361 : decode cL_law 361 = .ok (.iaload, 1) := by decide +kernel
theorem dL_law_362 : decode cL_law 362 = .ok (.invokevirtual 41, 3) := by decide +kernel
theorem dL_law_365 : decode cL_law 365 = .ok (.if_icmp .eq 456, 3) := by decide +kernel
theorem dL_law_368 : decode cL_law 368 = .ok (.iconst 0, 1) := by decide +kernel
theorem dL_law_369 : decode cL_law 369 = .ok (.ireturn, 1) := by decide +kernel
set_option maxHeartbeats 4000000 in
set_option maxRecDepth 100000 in
theorem law_surge {p : Program} {l : Launch} {e : Env} {s : State} {m : MethodId} {below : List Frame} {meth : Method} {c : Code} {A : Nat → Prop} {Q : State → Prop} {D : va_G} {cI cS : ClassId} {b L : Nat} {xs : Nat → Int32} {aR aM : Nat → Nat} {retL : Option FieldType} (C : Cx p s m #[Value.ref b] meth c RL cL_law 4 retL D (tyL cI cS)) (hA : ∀ q, s.heap.size ≤ q → A q) (hz : ZZ A s s.heap) (hX : va_X b L xs s s.heap) (hbl : b < s.heap.size) (hbA : ¬ A b) {Rel : Nat → RS → MS → Prop} (hs : St_surge Rel) (hm : ∀ (n : Nat) (X : RS) (M : MS), Rel n X M → Rel (n + 1) X M) {n : Nat} (hn : n < 512) {x3 : Int32} (i1 : okI (x3 + (1 : Int32)) L) (i2 : okI (x3 + (2 : Int32)) L) (i3 : okI (x3 + (3 : Int32)) L) (i4 : okI (x3 + (4 : Int32)) L) (TAIL : ∀ (X : RS) (M : MS), Rel (n + 1) X M → ∀ (H : Heap) (locs : List Loc) (ls : Array Slot), va_P D vwCl (wL cI cS aR aM X M) H → va_D A (wL cI cS aR aM X M) → va_S A s.heap H locs → lv_has ls 4 [(0, .ref b), (1, .ref (aR 0)), (2, .ref (aM 0)), (3, .int x3)] → W p l e room_1 s m #[Value.ref b] below meth c H locs 146 9640 Q (F0 m 821 ls [])) (X : RS) (M : MS) (hr : Rel n X M) (H : Heap) (locs : List Loc) (ls : Array Slot) (hP : va_P D vwCl (wL cI cS aR aM X M) H) (hD : va_D A (wL cI cS aR aM X M)) (hS : va_S A s.heap H locs) (hl : lv_has ls 4 [(0, .ref b), (1, .ref (aR 0)), (2, .ref (aM 0)), (3, .int x3)]) : W p l e room_1 s m #[Value.ref b] below meth c H locs 146 9640 Q (F0 m 317 ls []) := by
  obtain ⟨q, r, hq, hq2, hqr, hrel⟩ := hs n X M hn hr (xs (x3 + (1 : Int32)).toNatClampNeg) (xs (x3 + (2 : Int32)).toNatClampNeg) (xs (x3 + (3 : Int32)).toNatClampNeg) (xs (x3 + (4 : Int32)).toNatClampNeg)
  refine x_aload_n C dL_law_317 rfl hl 1 rfl ?_
  refine x_aload_n C dL_law_318 rfl hl 0 rfl ?_
  refine x_iload_n C dL_law_319 rfl hl 3 rfl ?_
  refine x_iconst (v := (1 : Int32)) C dL_law_320 (by decide) ?_
  refine x_iadd C dL_law_321 ?_
  refine x_sld C hX hbl hbA hS i1 dL_law_322 ?_
  refine x_aload_n C dL_law_323 rfl hl 0 rfl ?_
  refine x_iload_n C dL_law_324 rfl hl 3 rfl ?_
  refine x_iconst (v := (2 : Int32)) C dL_law_325 (by decide) ?_
  refine x_iadd C dL_law_326 ?_
  refine x_sld C hX hbl hbA hS i2 dL_law_327 ?_
  refine x_aload_n C dL_law_328 rfl hl 0 rfl ?_
  refine x_iload_n C dL_law_329 rfl hl 3 rfl ?_
  refine x_iconst (v := (3 : Int32)) C dL_law_330 (by decide) ?_
  refine x_iadd C dL_law_331 ?_
  refine x_sld C hX hbl hbA hS i3 dL_law_332 ?_
  refine x_aload_n C dL_law_333 rfl hl 0 rfl ?_
  refine x_iload_n C dL_law_334 rfl hl 3 rfl ?_
  refine x_iconst (v := (4 : Int32)) C dL_law_335 (by decide) ?_
  refine x_iadd C dL_law_336 ?_
  refine x_sld C hX hbl hbA hS i4 dL_law_337 ?_
  refine x_callV (As := [.int _, .int _, .int _, .int _]) (n := 4) C (Mc.atL (kX5_surge l D cI cS aR _ _ _ _ X hq) (wM cI aM M)) (fun hh => nomatch hh) wm_L_37 wi_X5_surge we_X5_surge wz_X5 wc_X5_surge (by decide +kernel) rfl hP hD hS hA 0 2 rfl rfl rfl hl.1 dL_law_338 rfl (Nat.le_of_ble_eq_true rfl) ⟨Nat.le_of_ble_eq_true rfl, Nat.le_of_ble_eq_true rfl⟩ ⟨Nat.le_of_ble_eq_true rfl, Nat.le_of_ble_eq_true rfl⟩ (fun H locs hP hD hS => ?_)
  refine x_aload_n C dL_law_341 rfl hl 2 rfl ?_
  refine x_aload_n C dL_law_342 rfl hl 0 rfl ?_
  refine x_iload_n C dL_law_343 rfl hl 3 rfl ?_
  refine x_iconst (v := (1 : Int32)) C dL_law_344 (by decide) ?_
  refine x_iadd C dL_law_345 ?_
  refine x_sld C hX hbl hbA hS i1 dL_law_346 ?_
  refine x_aload_n C dL_law_347 rfl hl 0 rfl ?_
  refine x_iload_n C dL_law_348 rfl hl 3 rfl ?_
  refine x_iconst (v := (2 : Int32)) C dL_law_349 (by decide) ?_
  refine x_iadd C dL_law_350 ?_
  refine x_sld C hX hbl hbA hS i2 dL_law_351 ?_
  refine x_aload_n C dL_law_352 rfl hl 0 rfl ?_
  refine x_iload_n C dL_law_353 rfl hl 3 rfl ?_
  refine x_iconst (v := (3 : Int32)) C dL_law_354 (by decide) ?_
  refine x_iadd C dL_law_355 ?_
  refine x_sld C hX hbl hbA hS i3 dL_law_356 ?_
  refine x_aload_n C dL_law_357 rfl hl 0 rfl ?_
  refine x_iload_n C dL_law_358 rfl hl 3 rfl ?_
  refine x_iconst (v := (4 : Int32)) C dL_law_359 (by decide) ?_
  refine x_iadd C dL_law_360 ?_
  refine x_sld C hX hbl hbA hS i4 dL_law_361 ?_
  refine x_callV (As := [.int _, .int _, .int _, .int _]) (n := 4) C (Mc.atR (kX6_surge l D cI cS aM _ _ _ _ M hq2) (wR cI cS aR q.2)) (fun hh => nomatch hh) wm_L_41 wi_X6_surge we_X6_surge wz_X6 wc_X6_surge (by decide +kernel) rfl hP hD hS hA 140 3 (wL_recv cI cS aR aM q.2 M) rfl rfl hl.1 dL_law_362 rfl (Nat.le_of_ble_eq_true rfl) ⟨Nat.le_of_ble_eq_true rfl, Nat.le_of_ble_eq_true rfl⟩ ⟨Nat.le_of_ble_eq_true rfl, Nat.le_of_ble_eq_true rfl⟩ (fun H locs hP hD hS => ?_)
  refine x_eqK (tgt := 821) C hqr dL_law_365 (by decide) ?_
  exact TAIL _ _ hrel _ _ _ hP hD hS hl
theorem dL_law_370 : decode cL_law 370 = .ok (.aload_n 1, 1) := by decide +kernel
theorem dL_law_371 : decode cL_law 371 = .ok (.aload_n 0, 1) := by decide +kernel
theorem dL_law_372 : decode cL_law 372 = .ok (.iload_n 3, 1) := by decide +kernel
theorem dL_law_373 : decode cL_law 373 = .ok (.iconst 1, 1) := by decide +kernel
theorem dL_law_374 : decode cL_law 374 = .ok (.iadd, 1) := by decide +kernel
theorem dL_law_375 : decode cL_law 375 = .ok (.iaload, 1) := by decide +kernel
theorem dL_law_376 : decode cL_law 376 = .ok (.invokevirtual 42, 3) := by decide +kernel
theorem dL_law_379 : decode cL_law 379 = .ok (.aload_n 2, 1) := by decide +kernel
theorem dL_law_380 : decode cL_law 380 = .ok (.aload_n 0, 1) := by decide +kernel
theorem dL_law_381 : decode cL_law 381 = .ok (.iload_n 3, 1) := by decide +kernel
theorem dL_law_382 : decode cL_law 382 = .ok (.iconst 1, 1) := by decide +kernel
theorem dL_law_383 : decode cL_law 383 = .ok (.iadd, 1) := by decide +kernel
theorem dL_law_384 : decode cL_law 384 = .ok (.iaload, 1) := by decide +kernel
theorem dL_law_385 : decode cL_law 385 = .ok (.invokevirtual 45, 3) := by decide +kernel
theorem dL_law_388 : decode cL_law 388 = .ok (.if_icmp .eq 433, 3) := by decide +kernel
theorem dL_law_391 : decode cL_law 391 = .ok (.iconst 0, 1) := by decide +kernel
theorem dL_law_392 : decode cL_law 392 = .ok (.ireturn, 1) := by decide +kernel
set_option maxHeartbeats 4000000 in
set_option maxRecDepth 100000 in
theorem law_run {p : Program} {l : Launch} {e : Env} {s : State} {m : MethodId} {below : List Frame} {meth : Method} {c : Code} {A : Nat → Prop} {Q : State → Prop} {D : va_G} {cI cS : ClassId} {b L : Nat} {xs : Nat → Int32} {aR aM : Nat → Nat} {retL : Option FieldType} (C : Cx p s m #[Value.ref b] meth c RL cL_law 4 retL D (tyL cI cS)) (hA : ∀ q, s.heap.size ≤ q → A q) (hz : ZZ A s s.heap) (hX : va_X b L xs s s.heap) (hbl : b < s.heap.size) (hbA : ¬ A b) {Rel : Nat → RS → MS → Prop} (hs : St_run Rel) (hm : ∀ (n : Nat) (X : RS) (M : MS), Rel n X M → Rel (n + 1) X M) {n : Nat} (hn : n < 512) {x3 : Int32} (i1 : okI (x3 + (1 : Int32)) L) (TAIL : ∀ (X : RS) (M : MS), Rel (n + 1) X M → ∀ (H : Heap) (locs : List Loc) (ls : Array Slot), va_P D vwCl (wL cI cS aR aM X M) H → va_D A (wL cI cS aR aM X M) → va_S A s.heap H locs → lv_has ls 4 [(0, .ref b), (1, .ref (aR 0)), (2, .ref (aM 0)), (3, .int x3)] → W p l e room_1 s m #[Value.ref b] below meth c H locs 146 9640 Q (F0 m 821 ls [])) (X : RS) (M : MS) (hr : Rel n X M) (H : Heap) (locs : List Loc) (ls : Array Slot) (hP : va_P D vwCl (wL cI cS aR aM X M) H) (hD : va_D A (wL cI cS aR aM X M)) (hS : va_S A s.heap H locs) (hl : lv_has ls 4 [(0, .ref b), (1, .ref (aR 0)), (2, .ref (aM 0)), (3, .int x3)]) : W p l e room_1 s m #[Value.ref b] below meth c H locs 146 9640 Q (F0 m 370 ls []) := by
  obtain ⟨q, r, hq, hq2, hqr, hrel⟩ := hs n X M hn hr (xs (x3 + (1 : Int32)).toNatClampNeg)
  refine x_aload_n C dL_law_370 rfl hl 1 rfl ?_
  refine x_aload_n C dL_law_371 rfl hl 0 rfl ?_
  refine x_iload_n C dL_law_372 rfl hl 3 rfl ?_
  refine x_iconst (v := (1 : Int32)) C dL_law_373 (by decide) ?_
  refine x_iadd C dL_law_374 ?_
  refine x_sld C hX hbl hbA hS i1 dL_law_375 ?_
  refine x_callV (As := [.int _]) (n := 1) C (Mc.atL (kX5_run l D cI cS aR _ X hq) (wM cI aM M)) (fun hh => nomatch hh) wm_L_42 wi_X5_run we_X5_run wz_X5 wc_X5_run (by decide +kernel) rfl hP hD hS hA 0 2 rfl rfl rfl hl.1 dL_law_376 rfl (Nat.le_of_ble_eq_true rfl) ⟨Nat.le_of_ble_eq_true rfl, Nat.le_of_ble_eq_true rfl⟩ ⟨Nat.le_of_ble_eq_true rfl, Nat.le_of_ble_eq_true rfl⟩ (fun H locs hP hD hS => ?_)
  refine x_aload_n C dL_law_379 rfl hl 2 rfl ?_
  refine x_aload_n C dL_law_380 rfl hl 0 rfl ?_
  refine x_iload_n C dL_law_381 rfl hl 3 rfl ?_
  refine x_iconst (v := (1 : Int32)) C dL_law_382 (by decide) ?_
  refine x_iadd C dL_law_383 ?_
  refine x_sld C hX hbl hbA hS i1 dL_law_384 ?_
  refine x_callV (As := [.int _]) (n := 1) C (Mc.atR (kX6_run l D cI cS aM _ M hq2) (wR cI cS aR q.2)) (fun hh => nomatch hh) wm_L_45 wi_X6_run we_X6_run wz_X6 wc_X6_run (by decide +kernel) rfl hP hD hS hA 140 3 (wL_recv cI cS aR aM q.2 M) rfl rfl hl.1 dL_law_385 rfl (Nat.le_of_ble_eq_true rfl) ⟨Nat.le_of_ble_eq_true rfl, Nat.le_of_ble_eq_true rfl⟩ ⟨Nat.le_of_ble_eq_true rfl, Nat.le_of_ble_eq_true rfl⟩ (fun H locs hP hD hS => ?_)
  refine x_eqK (tgt := 821) C hqr dL_law_388 (by decide) ?_
  exact TAIL _ _ hrel _ _ _ hP hD hS hl
theorem dL_law_393 : decode cL_law 393 = .ok (.aload_n 1, 1) := by decide +kernel
theorem dL_law_394 : decode cL_law 394 = .ok (.aload_n 0, 1) := by decide +kernel
theorem dL_law_395 : decode cL_law 395 = .ok (.iload_n 3, 1) := by decide +kernel
theorem dL_law_396 : decode cL_law 396 = .ok (.iconst 1, 1) := by decide +kernel
theorem dL_law_397 : decode cL_law 397 = .ok (.iadd, 1) := by decide +kernel
theorem dL_law_398 : decode cL_law 398 = .ok (.iaload, 1) := by decide +kernel
theorem dL_law_399 : decode cL_law 399 = .ok (.aload_n 0, 1) := by decide +kernel
theorem dL_law_400 : decode cL_law 400 = .ok (.iload_n 3, 1) := by decide +kernel
theorem dL_law_401 : decode cL_law 401 = .ok (.iconst 2, 1) := by decide +kernel
theorem dL_law_402 : decode cL_law 402 = .ok (.iadd, 1) := by decide +kernel
theorem dL_law_403 : decode cL_law 403 = .ok (.iaload, 1) := by decide +kernel
theorem dL_law_404 : decode cL_law 404 = .ok (.invokevirtual 46, 3) := by decide +kernel
theorem dL_law_407 : decode cL_law 407 = .ok (.aload_n 2, 1) := by decide +kernel
theorem dL_law_408 : decode cL_law 408 = .ok (.aload_n 0, 1) := by decide +kernel
theorem dL_law_409 : decode cL_law 409 = .ok (.iload_n 3, 1) := by decide +kernel
theorem dL_law_410 : decode cL_law 410 = .ok (.iconst 1, 1) := by decide +kernel
theorem dL_law_411 : decode cL_law 411 = .ok (.iadd, 1) := by decide +kernel
theorem dL_law_412 : decode cL_law 412 = .ok (.iaload, 1) := by decide +kernel
theorem dL_law_413 : decode cL_law 413 = .ok (.aload_n 0, 1) := by decide +kernel
theorem dL_law_414 : decode cL_law 414 = .ok (.iload_n 3, 1) := by decide +kernel
theorem dL_law_415 : decode cL_law 415 = .ok (.iconst 2, 1) := by decide +kernel
theorem dL_law_416 : decode cL_law 416 = .ok (.iadd, 1) := by decide +kernel
theorem dL_law_417 : decode cL_law 417 = .ok (.iaload, 1) := by decide +kernel
theorem dL_law_418 : decode cL_law 418 = .ok (.invokevirtual 49, 3) := by decide +kernel
theorem dL_law_421 : decode cL_law 421 = .ok (.if_icmp .eq 400, 3) := by decide +kernel
theorem dL_law_424 : decode cL_law 424 = .ok (.iconst 0, 1) := by decide +kernel
theorem dL_law_425 : decode cL_law 425 = .ok (.ireturn, 1) := by decide +kernel
set_option maxHeartbeats 4000000 in
set_option maxRecDepth 100000 in
theorem law_ifRun {p : Program} {l : Launch} {e : Env} {s : State} {m : MethodId} {below : List Frame} {meth : Method} {c : Code} {A : Nat → Prop} {Q : State → Prop} {D : va_G} {cI cS : ClassId} {b L : Nat} {xs : Nat → Int32} {aR aM : Nat → Nat} {retL : Option FieldType} (C : Cx p s m #[Value.ref b] meth c RL cL_law 4 retL D (tyL cI cS)) (hA : ∀ q, s.heap.size ≤ q → A q) (hz : ZZ A s s.heap) (hX : va_X b L xs s s.heap) (hbl : b < s.heap.size) (hbA : ¬ A b) {Rel : Nat → RS → MS → Prop} (hs : St_ifRun Rel) (hm : ∀ (n : Nat) (X : RS) (M : MS), Rel n X M → Rel (n + 1) X M) {n : Nat} (hn : n < 512) {x3 : Int32} (i1 : okI (x3 + (1 : Int32)) L) (i2 : okI (x3 + (2 : Int32)) L) (TAIL : ∀ (X : RS) (M : MS), Rel (n + 1) X M → ∀ (H : Heap) (locs : List Loc) (ls : Array Slot), va_P D vwCl (wL cI cS aR aM X M) H → va_D A (wL cI cS aR aM X M) → va_S A s.heap H locs → lv_has ls 4 [(0, .ref b), (1, .ref (aR 0)), (2, .ref (aM 0)), (3, .int x3)] → W p l e room_1 s m #[Value.ref b] below meth c H locs 146 9640 Q (F0 m 821 ls [])) (X : RS) (M : MS) (hr : Rel n X M) (H : Heap) (locs : List Loc) (ls : Array Slot) (hP : va_P D vwCl (wL cI cS aR aM X M) H) (hD : va_D A (wL cI cS aR aM X M)) (hS : va_S A s.heap H locs) (hl : lv_has ls 4 [(0, .ref b), (1, .ref (aR 0)), (2, .ref (aM 0)), (3, .int x3)]) : W p l e room_1 s m #[Value.ref b] below meth c H locs 146 9640 Q (F0 m 393 ls []) := by
  obtain ⟨q, r, hq, hq2, hqr, hrel⟩ := hs n X M hn hr (xs (x3 + (1 : Int32)).toNatClampNeg) (xs (x3 + (2 : Int32)).toNatClampNeg)
  refine x_aload_n C dL_law_393 rfl hl 1 rfl ?_
  refine x_aload_n C dL_law_394 rfl hl 0 rfl ?_
  refine x_iload_n C dL_law_395 rfl hl 3 rfl ?_
  refine x_iconst (v := (1 : Int32)) C dL_law_396 (by decide) ?_
  refine x_iadd C dL_law_397 ?_
  refine x_sld C hX hbl hbA hS i1 dL_law_398 ?_
  refine x_aload_n C dL_law_399 rfl hl 0 rfl ?_
  refine x_iload_n C dL_law_400 rfl hl 3 rfl ?_
  refine x_iconst (v := (2 : Int32)) C dL_law_401 (by decide) ?_
  refine x_iadd C dL_law_402 ?_
  refine x_sld C hX hbl hbA hS i2 dL_law_403 ?_
  refine x_callV (As := [.int _, .int _]) (n := 2) C (Mc.atL (kX5_ifRun l D cI cS aR _ _ X hq) (wM cI aM M)) (fun hh => nomatch hh) wm_L_46 wi_X5_ifRun we_X5_ifRun wz_X5 wc_X5_ifRun (by decide +kernel) rfl hP hD hS hA 0 2 rfl rfl rfl hl.1 dL_law_404 rfl (Nat.le_of_ble_eq_true rfl) ⟨Nat.le_of_ble_eq_true rfl, Nat.le_of_ble_eq_true rfl⟩ ⟨Nat.le_of_ble_eq_true rfl, Nat.le_of_ble_eq_true rfl⟩ (fun H locs hP hD hS => ?_)
  refine x_aload_n C dL_law_407 rfl hl 2 rfl ?_
  refine x_aload_n C dL_law_408 rfl hl 0 rfl ?_
  refine x_iload_n C dL_law_409 rfl hl 3 rfl ?_
  refine x_iconst (v := (1 : Int32)) C dL_law_410 (by decide) ?_
  refine x_iadd C dL_law_411 ?_
  refine x_sld C hX hbl hbA hS i1 dL_law_412 ?_
  refine x_aload_n C dL_law_413 rfl hl 0 rfl ?_
  refine x_iload_n C dL_law_414 rfl hl 3 rfl ?_
  refine x_iconst (v := (2 : Int32)) C dL_law_415 (by decide) ?_
  refine x_iadd C dL_law_416 ?_
  refine x_sld C hX hbl hbA hS i2 dL_law_417 ?_
  refine x_callV (As := [.int _, .int _]) (n := 2) C (Mc.atR (kX6_ifRun l D cI cS aM _ _ M hq2) (wR cI cS aR q.2)) (fun hh => nomatch hh) wm_L_49 wi_X6_ifRun we_X6_ifRun wz_X6 wc_X6_ifRun (by decide +kernel) rfl hP hD hS hA 140 3 (wL_recv cI cS aR aM q.2 M) rfl rfl hl.1 dL_law_418 rfl (Nat.le_of_ble_eq_true rfl) ⟨Nat.le_of_ble_eq_true rfl, Nat.le_of_ble_eq_true rfl⟩ ⟨Nat.le_of_ble_eq_true rfl, Nat.le_of_ble_eq_true rfl⟩ (fun H locs hP hD hS => ?_)
  refine x_eqK (tgt := 821) C hqr dL_law_421 (by decide) ?_
  exact TAIL _ _ hrel _ _ _ hP hD hS hl
theorem dL_law_426 : decode cL_law 426 = .ok (.aload_n 1, 1) := by decide +kernel
theorem dL_law_427 : decode cL_law 427 = .ok (.aload_n 0, 1) := by decide +kernel
theorem dL_law_428 : decode cL_law 428 = .ok (.iload_n 3, 1) := by decide +kernel
theorem dL_law_429 : decode cL_law 429 = .ok (.iconst 1, 1) := by decide +kernel
theorem dL_law_430 : decode cL_law 430 = .ok (.iadd, 1) := by decide +kernel
theorem dL_law_431 : decode cL_law 431 = .ok (.iaload, 1) := by decide +kernel
theorem dL_law_432 : decode cL_law 432 = .ok (.invokevirtual 50, 3) := by decide +kernel
theorem dL_law_435 : decode cL_law 435 = .ok (.aload_n 2, 1) := by decide +kernel
theorem dL_law_436 : decode cL_law 436 = .ok (.aload_n 0, 1) := by decide +kernel
theorem dL_law_437 : decode cL_law 437 = .ok (.iload_n 3, 1) := by decide +kernel
theorem dL_law_438 : decode cL_law 438 = .ok (.iconst 1, 1) := by decide +kernel
theorem dL_law_439 : decode cL_law 439 = .ok (.iadd, 1) := by decide +kernel
theorem dL_law_440 : decode cL_law 440 = .ok (.iaload, 1) := by decide +kernel
theorem dL_law_441 : decode cL_law 441 = .ok (.invokevirtual 53, 3) := by decide +kernel
theorem dL_law_444 : decode cL_law 444 = .ok (.if_icmp .eq 377, 3) := by decide +kernel
theorem dL_law_447 : decode cL_law 447 = .ok (.iconst 0, 1) := by decide +kernel
theorem dL_law_448 : decode cL_law 448 = .ok (.ireturn, 1) := by decide +kernel
set_option maxHeartbeats 4000000 in
set_option maxRecDepth 100000 in
theorem law_bestDiscipline {p : Program} {l : Launch} {e : Env} {s : State} {m : MethodId} {below : List Frame} {meth : Method} {c : Code} {A : Nat → Prop} {Q : State → Prop} {D : va_G} {cI cS : ClassId} {b L : Nat} {xs : Nat → Int32} {aR aM : Nat → Nat} {retL : Option FieldType} (C : Cx p s m #[Value.ref b] meth c RL cL_law 4 retL D (tyL cI cS)) (hA : ∀ q, s.heap.size ≤ q → A q) (hz : ZZ A s s.heap) (hX : va_X b L xs s s.heap) (hbl : b < s.heap.size) (hbA : ¬ A b) {Rel : Nat → RS → MS → Prop} (hs : St_bestDiscipline Rel) (hm : ∀ (n : Nat) (X : RS) (M : MS), Rel n X M → Rel (n + 1) X M) {n : Nat} (hn : n < 512) {x3 : Int32} (i1 : okI (x3 + (1 : Int32)) L) (TAIL : ∀ (X : RS) (M : MS), Rel (n + 1) X M → ∀ (H : Heap) (locs : List Loc) (ls : Array Slot), va_P D vwCl (wL cI cS aR aM X M) H → va_D A (wL cI cS aR aM X M) → va_S A s.heap H locs → lv_has ls 4 [(0, .ref b), (1, .ref (aR 0)), (2, .ref (aM 0)), (3, .int x3)] → W p l e room_1 s m #[Value.ref b] below meth c H locs 146 9640 Q (F0 m 821 ls [])) (X : RS) (M : MS) (hr : Rel n X M) (H : Heap) (locs : List Loc) (ls : Array Slot) (hP : va_P D vwCl (wL cI cS aR aM X M) H) (hD : va_D A (wL cI cS aR aM X M)) (hS : va_S A s.heap H locs) (hl : lv_has ls 4 [(0, .ref b), (1, .ref (aR 0)), (2, .ref (aM 0)), (3, .int x3)]) : W p l e room_1 s m #[Value.ref b] below meth c H locs 146 9640 Q (F0 m 426 ls []) := by
  obtain ⟨q, r, hq, hq2, hqr, hrel⟩ := hs n X M hn hr (xs (x3 + (1 : Int32)).toNatClampNeg)
  refine x_aload_n C dL_law_426 rfl hl 1 rfl ?_
  refine x_aload_n C dL_law_427 rfl hl 0 rfl ?_
  refine x_iload_n C dL_law_428 rfl hl 3 rfl ?_
  refine x_iconst (v := (1 : Int32)) C dL_law_429 (by decide) ?_
  refine x_iadd C dL_law_430 ?_
  refine x_sld C hX hbl hbA hS i1 dL_law_431 ?_
  refine x_callV (As := [.int _]) (n := 1) C (Mc.atL (kX5_bestDiscipline l D cI cS aR _ X hq) (wM cI aM M)) (fun hh => nomatch hh) wm_L_50 wi_X5_bestDiscipline we_X5_bestDiscipline wz_X5 wc_X5_bestDiscipline (by decide +kernel) rfl hP hD hS hA 0 2 rfl rfl rfl hl.1 dL_law_432 rfl (Nat.le_of_ble_eq_true rfl) ⟨Nat.le_of_ble_eq_true rfl, Nat.le_of_ble_eq_true rfl⟩ ⟨Nat.le_of_ble_eq_true rfl, Nat.le_of_ble_eq_true rfl⟩ (fun H locs hP hD hS => ?_)
  refine x_aload_n C dL_law_435 rfl hl 2 rfl ?_
  refine x_aload_n C dL_law_436 rfl hl 0 rfl ?_
  refine x_iload_n C dL_law_437 rfl hl 3 rfl ?_
  refine x_iconst (v := (1 : Int32)) C dL_law_438 (by decide) ?_
  refine x_iadd C dL_law_439 ?_
  refine x_sld C hX hbl hbA hS i1 dL_law_440 ?_
  refine x_callV (As := [.int _]) (n := 1) C (Mc.atR (kX6_bestDiscipline l D cI cS aM _ M hq2) (wR cI cS aR q.2)) (fun hh => nomatch hh) wm_L_53 wi_X6_bestDiscipline we_X6_bestDiscipline wz_X6 wc_X6_bestDiscipline (by decide +kernel) rfl hP hD hS hA 140 3 (wL_recv cI cS aR aM q.2 M) rfl rfl hl.1 dL_law_441 rfl (Nat.le_of_ble_eq_true rfl) ⟨Nat.le_of_ble_eq_true rfl, Nat.le_of_ble_eq_true rfl⟩ ⟨Nat.le_of_ble_eq_true rfl, Nat.le_of_ble_eq_true rfl⟩ (fun H locs hP hD hS => ?_)
  refine x_eqK (tgt := 821) C hqr dL_law_444 (by decide) ?_
  exact TAIL _ _ hrel _ _ _ hP hD hS hl
theorem dL_law_449 : decode cL_law 449 = .ok (.aload_n 1, 1) := by decide +kernel
theorem dL_law_450 : decode cL_law 450 = .ok (.aload_n 0, 1) := by decide +kernel
theorem dL_law_451 : decode cL_law 451 = .ok (.iload_n 3, 1) := by decide +kernel
theorem dL_law_452 : decode cL_law 452 = .ok (.iconst 1, 1) := by decide +kernel
theorem dL_law_453 : decode cL_law 453 = .ok (.iadd, 1) := by decide +kernel
theorem dL_law_454 : decode cL_law 454 = .ok (.iaload, 1) := by decide +kernel
theorem dL_law_455 : decode cL_law 455 = .ok (.aload_n 0, 1) := by decide +kernel
theorem dL_law_456 : decode cL_law 456 = .ok (.iload_n 3, 1) := by decide +kernel
theorem dL_law_457 : decode cL_law 457 = .ok (.iconst 2, 1) := by decide +kernel
theorem dL_law_458 : decode cL_law 458 = .ok (.iadd, 1) := by decide +kernel
theorem dL_law_459 : decode cL_law 459 = .ok (.iaload, 1) := by decide +kernel
theorem dL_law_460 : decode cL_law 460 = .ok (.invokevirtual 54, 3) := by decide +kernel
theorem dL_law_463 : decode cL_law 463 = .ok (.aload_n 2, 1) := by decide +kernel
theorem dL_law_464 : decode cL_law 464 = .ok (.aload_n 0, 1) := by decide +kernel
theorem dL_law_465 : decode cL_law 465 = .ok (.iload_n 3, 1) := by decide +kernel
theorem dL_law_466 : decode cL_law 466 = .ok (.iconst 1, 1) := by decide +kernel
theorem dL_law_467 : decode cL_law 467 = .ok (.iadd, 1) := by decide +kernel
theorem dL_law_468 : decode cL_law 468 = .ok (.iaload, 1) := by decide +kernel
theorem dL_law_469 : decode cL_law 469 = .ok (.aload_n 0, 1) := by decide +kernel
theorem dL_law_470 : decode cL_law 470 = .ok (.iload_n 3, 1) := by decide +kernel
theorem dL_law_471 : decode cL_law 471 = .ok (.iconst 2, 1) := by decide +kernel
theorem dL_law_472 : decode cL_law 472 = .ok (.iadd, 1) := by decide +kernel
theorem dL_law_473 : decode cL_law 473 = .ok (.iaload, 1) := by decide +kernel
theorem dL_law_474 : decode cL_law 474 = .ok (.invokevirtual 57, 3) := by decide +kernel
theorem dL_law_477 : decode cL_law 477 = .ok (.if_icmp .eq 344, 3) := by decide +kernel
theorem dL_law_480 : decode cL_law 480 = .ok (.iconst 0, 1) := by decide +kernel
theorem dL_law_481 : decode cL_law 481 = .ok (.ireturn, 1) := by decide +kernel
set_option maxHeartbeats 4000000 in
set_option maxRecDepth 100000 in
theorem law_count {p : Program} {l : Launch} {e : Env} {s : State} {m : MethodId} {below : List Frame} {meth : Method} {c : Code} {A : Nat → Prop} {Q : State → Prop} {D : va_G} {cI cS : ClassId} {b L : Nat} {xs : Nat → Int32} {aR aM : Nat → Nat} {retL : Option FieldType} (C : Cx p s m #[Value.ref b] meth c RL cL_law 4 retL D (tyL cI cS)) (hA : ∀ q, s.heap.size ≤ q → A q) (hz : ZZ A s s.heap) (hX : va_X b L xs s s.heap) (hbl : b < s.heap.size) (hbA : ¬ A b) {Rel : Nat → RS → MS → Prop} (hs : St_count Rel) (hm : ∀ (n : Nat) (X : RS) (M : MS), Rel n X M → Rel (n + 1) X M) {n : Nat} (hn : n < 512) {x3 : Int32} (i1 : okI (x3 + (1 : Int32)) L) (i2 : okI (x3 + (2 : Int32)) L) (TAIL : ∀ (X : RS) (M : MS), Rel (n + 1) X M → ∀ (H : Heap) (locs : List Loc) (ls : Array Slot), va_P D vwCl (wL cI cS aR aM X M) H → va_D A (wL cI cS aR aM X M) → va_S A s.heap H locs → lv_has ls 4 [(0, .ref b), (1, .ref (aR 0)), (2, .ref (aM 0)), (3, .int x3)] → W p l e room_1 s m #[Value.ref b] below meth c H locs 146 9640 Q (F0 m 821 ls [])) (X : RS) (M : MS) (hr : Rel n X M) (H : Heap) (locs : List Loc) (ls : Array Slot) (hP : va_P D vwCl (wL cI cS aR aM X M) H) (hD : va_D A (wL cI cS aR aM X M)) (hS : va_S A s.heap H locs) (hl : lv_has ls 4 [(0, .ref b), (1, .ref (aR 0)), (2, .ref (aM 0)), (3, .int x3)]) : W p l e room_1 s m #[Value.ref b] below meth c H locs 146 9640 Q (F0 m 449 ls []) := by
  obtain ⟨q, hq, hq2⟩ := hs n X M hn hr (xs (x3 + (1 : Int32)).toNatClampNeg) (xs (x3 + (2 : Int32)).toNatClampNeg)
  refine x_aload_n C dL_law_449 rfl hl 1 rfl ?_
  refine x_aload_n C dL_law_450 rfl hl 0 rfl ?_
  refine x_iload_n C dL_law_451 rfl hl 3 rfl ?_
  refine x_iconst (v := (1 : Int32)) C dL_law_452 (by decide) ?_
  refine x_iadd C dL_law_453 ?_
  refine x_sld C hX hbl hbA hS i1 dL_law_454 ?_
  refine x_aload_n C dL_law_455 rfl hl 0 rfl ?_
  refine x_iload_n C dL_law_456 rfl hl 3 rfl ?_
  refine x_iconst (v := (2 : Int32)) C dL_law_457 (by decide) ?_
  refine x_iadd C dL_law_458 ?_
  refine x_sld C hX hbl hbA hS i2 dL_law_459 ?_
  refine x_callV (As := [.int _, .int _]) (n := 2) C (Mc.atL (kX5_count l D cI cS aR _ _ X hq) (wM cI aM M)) (fun hh => nomatch hh) wm_L_54 wi_X5_count we_X5_count wz_X5 wc_X5_count (by decide +kernel) rfl hP hD hS hA 0 2 rfl rfl rfl hl.1 dL_law_460 rfl (Nat.le_of_ble_eq_true rfl) ⟨Nat.le_of_ble_eq_true rfl, Nat.le_of_ble_eq_true rfl⟩ ⟨Nat.le_of_ble_eq_true rfl, Nat.le_of_ble_eq_true rfl⟩ (fun H locs hP hD hS => ?_)
  refine x_aload_n C dL_law_463 rfl hl 2 rfl ?_
  refine x_aload_n C dL_law_464 rfl hl 0 rfl ?_
  refine x_iload_n C dL_law_465 rfl hl 3 rfl ?_
  refine x_iconst (v := (1 : Int32)) C dL_law_466 (by decide) ?_
  refine x_iadd C dL_law_467 ?_
  refine x_sld C hX hbl hbA hS i1 dL_law_468 ?_
  refine x_aload_n C dL_law_469 rfl hl 0 rfl ?_
  refine x_iload_n C dL_law_470 rfl hl 3 rfl ?_
  refine x_iconst (v := (2 : Int32)) C dL_law_471 (by decide) ?_
  refine x_iadd C dL_law_472 ?_
  refine x_sld C hX hbl hbA hS i2 dL_law_473 ?_
  refine x_callV (As := [.int _, .int _]) (n := 2) C (Mc.atR (kX6_count l D cI cS aM _ _ M hq2) (wR cI cS aR X)) (fun hh => nomatch hh) wm_L_57 wi_X6_count we_X6_count wz_X6 wc_X6_count (by decide +kernel) rfl hP hD hS hA 140 3 (wL_recv cI cS aR aM X M) rfl rfl hl.1 dL_law_474 rfl (Nat.le_of_ble_eq_true rfl) ⟨Nat.le_of_ble_eq_true rfl, Nat.le_of_ble_eq_true rfl⟩ ⟨Nat.le_of_ble_eq_true rfl, Nat.le_of_ble_eq_true rfl⟩ (fun H locs hP hD hS => ?_)
  refine x_eqK (tgt := 821) C rfl dL_law_477 (by decide) ?_
  exact TAIL _ _ (hm _ _ _ hr) _ _ _ hP hD hS hl
theorem dL_law_482 : decode cL_law 482 = .ok (.aload_n 1, 1) := by decide +kernel
theorem dL_law_483 : decode cL_law 483 = .ok (.aload_n 0, 1) := by decide +kernel
theorem dL_law_484 : decode cL_law 484 = .ok (.iload_n 3, 1) := by decide +kernel
theorem dL_law_485 : decode cL_law 485 = .ok (.iconst 1, 1) := by decide +kernel
theorem dL_law_486 : decode cL_law 486 = .ok (.iadd, 1) := by decide +kernel
theorem dL_law_487 : decode cL_law 487 = .ok (.iaload, 1) := by decide +kernel
theorem dL_law_488 : decode cL_law 488 = .ok (.aload_n 0, 1) := by decide +kernel
theorem dL_law_489 : decode cL_law 489 = .ok (.iload_n 3, 1) := by decide +kernel
theorem dL_law_490 : decode cL_law 490 = .ok (.iconst 2, 1) := by decide +kernel
theorem dL_law_491 : decode cL_law 491 = .ok (.iadd, 1) := by decide +kernel
theorem dL_law_492 : decode cL_law 492 = .ok (.iaload, 1) := by decide +kernel
theorem dL_law_493 : decode cL_law 493 = .ok (.invokevirtual 58, 3) := by decide +kernel
theorem dL_law_496 : decode cL_law 496 = .ok (.aload_n 2, 1) := by decide +kernel
theorem dL_law_497 : decode cL_law 497 = .ok (.aload_n 0, 1) := by decide +kernel
theorem dL_law_498 : decode cL_law 498 = .ok (.iload_n 3, 1) := by decide +kernel
theorem dL_law_499 : decode cL_law 499 = .ok (.iconst 1, 1) := by decide +kernel
theorem dL_law_500 : decode cL_law 500 = .ok (.iadd, 1) := by decide +kernel
theorem dL_law_501 : decode cL_law 501 = .ok (.iaload, 1) := by decide +kernel
theorem dL_law_502 : decode cL_law 502 = .ok (.aload_n 0, 1) := by decide +kernel
theorem dL_law_503 : decode cL_law 503 = .ok (.iload_n 3, 1) := by decide +kernel
theorem dL_law_504 : decode cL_law 504 = .ok (.iconst 2, 1) := by decide +kernel
theorem dL_law_505 : decode cL_law 505 = .ok (.iadd, 1) := by decide +kernel
theorem dL_law_506 : decode cL_law 506 = .ok (.iaload, 1) := by decide +kernel
theorem dL_law_507 : decode cL_law 507 = .ok (.invokevirtual 61, 3) := by decide +kernel
theorem dL_law_510 : decode cL_law 510 = .ok (.if_icmp .eq 311, 3) := by decide +kernel
theorem dL_law_513 : decode cL_law 513 = .ok (.iconst 0, 1) := by decide +kernel
theorem dL_law_514 : decode cL_law 514 = .ok (.ireturn, 1) := by decide +kernel
set_option maxHeartbeats 4000000 in
set_option maxRecDepth 100000 in
theorem law_succeededAt {p : Program} {l : Launch} {e : Env} {s : State} {m : MethodId} {below : List Frame} {meth : Method} {c : Code} {A : Nat → Prop} {Q : State → Prop} {D : va_G} {cI cS : ClassId} {b L : Nat} {xs : Nat → Int32} {aR aM : Nat → Nat} {retL : Option FieldType} (C : Cx p s m #[Value.ref b] meth c RL cL_law 4 retL D (tyL cI cS)) (hA : ∀ q, s.heap.size ≤ q → A q) (hz : ZZ A s s.heap) (hX : va_X b L xs s s.heap) (hbl : b < s.heap.size) (hbA : ¬ A b) {Rel : Nat → RS → MS → Prop} (hs : St_succeededAt Rel) (hm : ∀ (n : Nat) (X : RS) (M : MS), Rel n X M → Rel (n + 1) X M) {n : Nat} (hn : n < 512) {x3 : Int32} (i1 : okI (x3 + (1 : Int32)) L) (i2 : okI (x3 + (2 : Int32)) L) (TAIL : ∀ (X : RS) (M : MS), Rel (n + 1) X M → ∀ (H : Heap) (locs : List Loc) (ls : Array Slot), va_P D vwCl (wL cI cS aR aM X M) H → va_D A (wL cI cS aR aM X M) → va_S A s.heap H locs → lv_has ls 4 [(0, .ref b), (1, .ref (aR 0)), (2, .ref (aM 0)), (3, .int x3)] → W p l e room_1 s m #[Value.ref b] below meth c H locs 146 9640 Q (F0 m 821 ls [])) (X : RS) (M : MS) (hr : Rel n X M) (H : Heap) (locs : List Loc) (ls : Array Slot) (hP : va_P D vwCl (wL cI cS aR aM X M) H) (hD : va_D A (wL cI cS aR aM X M)) (hS : va_S A s.heap H locs) (hl : lv_has ls 4 [(0, .ref b), (1, .ref (aR 0)), (2, .ref (aM 0)), (3, .int x3)]) : W p l e room_1 s m #[Value.ref b] below meth c H locs 146 9640 Q (F0 m 482 ls []) := by
  obtain ⟨q, hq, hq2⟩ := hs n X M hn hr (xs (x3 + (1 : Int32)).toNatClampNeg) (xs (x3 + (2 : Int32)).toNatClampNeg)
  refine x_aload_n C dL_law_482 rfl hl 1 rfl ?_
  refine x_aload_n C dL_law_483 rfl hl 0 rfl ?_
  refine x_iload_n C dL_law_484 rfl hl 3 rfl ?_
  refine x_iconst (v := (1 : Int32)) C dL_law_485 (by decide) ?_
  refine x_iadd C dL_law_486 ?_
  refine x_sld C hX hbl hbA hS i1 dL_law_487 ?_
  refine x_aload_n C dL_law_488 rfl hl 0 rfl ?_
  refine x_iload_n C dL_law_489 rfl hl 3 rfl ?_
  refine x_iconst (v := (2 : Int32)) C dL_law_490 (by decide) ?_
  refine x_iadd C dL_law_491 ?_
  refine x_sld C hX hbl hbA hS i2 dL_law_492 ?_
  refine x_callV (As := [.int _, .int _]) (n := 2) C (Mc.atL (kX5_succeededAt l D cI cS aR _ _ X hq) (wM cI aM M)) (fun _ => hz) wm_L_58 wi_X5_succeededAt we_X5_succeededAt wz_X5 wc_X5_succeededAt (by decide +kernel) rfl hP hD hS hA 0 2 rfl rfl rfl hl.1 dL_law_493 rfl (Nat.le_of_ble_eq_true rfl) ⟨Nat.le_of_ble_eq_true rfl, Nat.le_of_ble_eq_true rfl⟩ ⟨Nat.le_of_ble_eq_true rfl, Nat.le_of_ble_eq_true rfl⟩ (fun H locs hP hD hS => ?_)
  refine x_aload_n C dL_law_496 rfl hl 2 rfl ?_
  refine x_aload_n C dL_law_497 rfl hl 0 rfl ?_
  refine x_iload_n C dL_law_498 rfl hl 3 rfl ?_
  refine x_iconst (v := (1 : Int32)) C dL_law_499 (by decide) ?_
  refine x_iadd C dL_law_500 ?_
  refine x_sld C hX hbl hbA hS i1 dL_law_501 ?_
  refine x_aload_n C dL_law_502 rfl hl 0 rfl ?_
  refine x_iload_n C dL_law_503 rfl hl 3 rfl ?_
  refine x_iconst (v := (2 : Int32)) C dL_law_504 (by decide) ?_
  refine x_iadd C dL_law_505 ?_
  refine x_sld C hX hbl hbA hS i2 dL_law_506 ?_
  refine x_callV (As := [.int _, .int _]) (n := 2) C (Mc.atR (kX6_succeededAt l D cI cS aM _ _ M hq2) (wR cI cS aR X)) (fun hh => nomatch hh) wm_L_61 wi_X6_succeededAt we_X6_succeededAt wz_X6 wc_X6_succeededAt (by decide +kernel) rfl hP hD hS hA 140 3 (wL_recv cI cS aR aM X M) rfl rfl hl.1 dL_law_507 rfl (Nat.le_of_ble_eq_true rfl) ⟨Nat.le_of_ble_eq_true rfl, Nat.le_of_ble_eq_true rfl⟩ ⟨Nat.le_of_ble_eq_true rfl, Nat.le_of_ble_eq_true rfl⟩ (fun H locs hP hD hS => ?_)
  refine x_eqK (tgt := 821) C rfl dL_law_510 (by decide) ?_
  exact TAIL _ _ (hm _ _ _ hr) _ _ _ hP hD hS hl
theorem dL_law_515 : decode cL_law 515 = .ok (.aload_n 1, 1) := by decide +kernel
theorem dL_law_516 : decode cL_law 516 = .ok (.aload_n 0, 1) := by decide +kernel
theorem dL_law_517 : decode cL_law 517 = .ok (.iload_n 3, 1) := by decide +kernel
theorem dL_law_518 : decode cL_law 518 = .ok (.iconst 1, 1) := by decide +kernel
theorem dL_law_519 : decode cL_law 519 = .ok (.iadd, 1) := by decide +kernel
theorem dL_law_520 : decode cL_law 520 = .ok (.iaload, 1) := by decide +kernel
theorem dL_law_521 : decode cL_law 521 = .ok (.invokevirtual 62, 3) := by decide +kernel
theorem dL_law_524 : decode cL_law 524 = .ok (.aload_n 2, 1) := by decide +kernel
theorem dL_law_525 : decode cL_law 525 = .ok (.aload_n 0, 1) := by decide +kernel
theorem dL_law_526 : decode cL_law 526 = .ok (.iload_n 3, 1) := by decide +kernel
theorem dL_law_527 : decode cL_law 527 = .ok (.iconst 1, 1) := by decide +kernel
theorem dL_law_528 : decode cL_law 528 = .ok (.iadd, 1) := by decide +kernel
theorem dL_law_529 : decode cL_law 529 = .ok (.iaload, 1) := by decide +kernel
theorem dL_law_530 : decode cL_law 530 = .ok (.invokevirtual 65, 3) := by decide +kernel
theorem dL_law_533 : decode cL_law 533 = .ok (.if_icmp .eq 288, 3) := by decide +kernel
theorem dL_law_536 : decode cL_law 536 = .ok (.iconst 0, 1) := by decide +kernel
theorem dL_law_537 : decode cL_law 537 = .ok (.ireturn, 1) := by decide +kernel
set_option maxHeartbeats 4000000 in
set_option maxRecDepth 100000 in
theorem law_told {p : Program} {l : Launch} {e : Env} {s : State} {m : MethodId} {below : List Frame} {meth : Method} {c : Code} {A : Nat → Prop} {Q : State → Prop} {D : va_G} {cI cS : ClassId} {b L : Nat} {xs : Nat → Int32} {aR aM : Nat → Nat} {retL : Option FieldType} (C : Cx p s m #[Value.ref b] meth c RL cL_law 4 retL D (tyL cI cS)) (hA : ∀ q, s.heap.size ≤ q → A q) (hz : ZZ A s s.heap) (hX : va_X b L xs s s.heap) (hbl : b < s.heap.size) (hbA : ¬ A b) {Rel : Nat → RS → MS → Prop} (hs : St_told Rel) (hm : ∀ (n : Nat) (X : RS) (M : MS), Rel n X M → Rel (n + 1) X M) {n : Nat} (hn : n < 512) {x3 : Int32} (i1 : okI (x3 + (1 : Int32)) L) (TAIL : ∀ (X : RS) (M : MS), Rel (n + 1) X M → ∀ (H : Heap) (locs : List Loc) (ls : Array Slot), va_P D vwCl (wL cI cS aR aM X M) H → va_D A (wL cI cS aR aM X M) → va_S A s.heap H locs → lv_has ls 4 [(0, .ref b), (1, .ref (aR 0)), (2, .ref (aM 0)), (3, .int x3)] → W p l e room_1 s m #[Value.ref b] below meth c H locs 146 9640 Q (F0 m 821 ls [])) (X : RS) (M : MS) (hr : Rel n X M) (H : Heap) (locs : List Loc) (ls : Array Slot) (hP : va_P D vwCl (wL cI cS aR aM X M) H) (hD : va_D A (wL cI cS aR aM X M)) (hS : va_S A s.heap H locs) (hl : lv_has ls 4 [(0, .ref b), (1, .ref (aR 0)), (2, .ref (aM 0)), (3, .int x3)]) : W p l e room_1 s m #[Value.ref b] below meth c H locs 146 9640 Q (F0 m 515 ls []) := by
  obtain ⟨q, hq, hq2⟩ := hs n X M hn hr (xs (x3 + (1 : Int32)).toNatClampNeg)
  refine x_aload_n C dL_law_515 rfl hl 1 rfl ?_
  refine x_aload_n C dL_law_516 rfl hl 0 rfl ?_
  refine x_iload_n C dL_law_517 rfl hl 3 rfl ?_
  refine x_iconst (v := (1 : Int32)) C dL_law_518 (by decide) ?_
  refine x_iadd C dL_law_519 ?_
  refine x_sld C hX hbl hbA hS i1 dL_law_520 ?_
  refine x_callV (As := [.int _]) (n := 1) C (Mc.atL (kX5_told l D cI cS aR _ X hq) (wM cI aM M)) (fun hh => nomatch hh) wm_L_62 wi_X5_told we_X5_told wz_X5 wc_X5_told (by decide +kernel) rfl hP hD hS hA 0 2 rfl rfl rfl hl.1 dL_law_521 rfl (Nat.le_of_ble_eq_true rfl) ⟨Nat.le_of_ble_eq_true rfl, Nat.le_of_ble_eq_true rfl⟩ ⟨Nat.le_of_ble_eq_true rfl, Nat.le_of_ble_eq_true rfl⟩ (fun H locs hP hD hS => ?_)
  refine x_aload_n C dL_law_524 rfl hl 2 rfl ?_
  refine x_aload_n C dL_law_525 rfl hl 0 rfl ?_
  refine x_iload_n C dL_law_526 rfl hl 3 rfl ?_
  refine x_iconst (v := (1 : Int32)) C dL_law_527 (by decide) ?_
  refine x_iadd C dL_law_528 ?_
  refine x_sld C hX hbl hbA hS i1 dL_law_529 ?_
  refine x_callV (As := [.int _]) (n := 1) C (Mc.atR (kX6_told l D cI cS aM _ M hq2) (wR cI cS aR X)) (fun hh => nomatch hh) wm_L_65 wi_X6_told we_X6_told wz_X6 wc_X6_told (by decide +kernel) rfl hP hD hS hA 140 3 (wL_recv cI cS aR aM X M) rfl rfl hl.1 dL_law_530 rfl (Nat.le_of_ble_eq_true rfl) ⟨Nat.le_of_ble_eq_true rfl, Nat.le_of_ble_eq_true rfl⟩ ⟨Nat.le_of_ble_eq_true rfl, Nat.le_of_ble_eq_true rfl⟩ (fun H locs hP hD hS => ?_)
  refine x_eqK (tgt := 821) C rfl dL_law_533 (by decide) ?_
  exact TAIL _ _ (hm _ _ _ hr) _ _ _ hP hD hS hl
theorem dL_law_538 : decode cL_law 538 = .ok (.aload_n 1, 1) := by decide +kernel
theorem dL_law_539 : decode cL_law 539 = .ok (.aload_n 0, 1) := by decide +kernel
theorem dL_law_540 : decode cL_law 540 = .ok (.iload_n 3, 1) := by decide +kernel
theorem dL_law_541 : decode cL_law 541 = .ok (.iconst 1, 1) := by decide +kernel
theorem dL_law_542 : decode cL_law 542 = .ok (.iadd, 1) := by decide +kernel
theorem dL_law_543 : decode cL_law 543 = .ok (.iaload, 1) := by decide +kernel
theorem dL_law_544 : decode cL_law 544 = .ok (.invokevirtual 66, 3) := by decide +kernel
theorem dL_law_547 : decode cL_law 547 = .ok (.aload_n 2, 1) := by decide +kernel
theorem dL_law_548 : decode cL_law 548 = .ok (.aload_n 0, 1) := by decide +kernel
theorem dL_law_549 : decode cL_law 549 = .ok (.iload_n 3, 1) := by decide +kernel
theorem dL_law_550 : decode cL_law 550 = .ok (.iconst 1, 1) := by decide +kernel
theorem dL_law_551 : decode cL_law 551 = .ok (.iadd, 1) := by decide +kernel
theorem dL_law_552 : decode cL_law 552 = .ok (.iaload, 1) := by decide +kernel
theorem dL_law_553 : decode cL_law 553 = .ok (.invokevirtual 69, 3) := by decide +kernel
theorem dL_law_556 : decode cL_law 556 = .ok (.if_icmp .eq 265, 3) := by decide +kernel
theorem dL_law_559 : decode cL_law 559 = .ok (.iconst 0, 1) := by decide +kernel
theorem dL_law_560 : decode cL_law 560 = .ok (.ireturn, 1) := by decide +kernel
set_option maxHeartbeats 4000000 in
set_option maxRecDepth 100000 in
theorem law_live {p : Program} {l : Launch} {e : Env} {s : State} {m : MethodId} {below : List Frame} {meth : Method} {c : Code} {A : Nat → Prop} {Q : State → Prop} {D : va_G} {cI cS : ClassId} {b L : Nat} {xs : Nat → Int32} {aR aM : Nat → Nat} {retL : Option FieldType} (C : Cx p s m #[Value.ref b] meth c RL cL_law 4 retL D (tyL cI cS)) (hA : ∀ q, s.heap.size ≤ q → A q) (hz : ZZ A s s.heap) (hX : va_X b L xs s s.heap) (hbl : b < s.heap.size) (hbA : ¬ A b) {Rel : Nat → RS → MS → Prop} (hs : St_live Rel) (hm : ∀ (n : Nat) (X : RS) (M : MS), Rel n X M → Rel (n + 1) X M) {n : Nat} (hn : n < 512) {x3 : Int32} (i1 : okI (x3 + (1 : Int32)) L) (TAIL : ∀ (X : RS) (M : MS), Rel (n + 1) X M → ∀ (H : Heap) (locs : List Loc) (ls : Array Slot), va_P D vwCl (wL cI cS aR aM X M) H → va_D A (wL cI cS aR aM X M) → va_S A s.heap H locs → lv_has ls 4 [(0, .ref b), (1, .ref (aR 0)), (2, .ref (aM 0)), (3, .int x3)] → W p l e room_1 s m #[Value.ref b] below meth c H locs 146 9640 Q (F0 m 821 ls [])) (X : RS) (M : MS) (hr : Rel n X M) (H : Heap) (locs : List Loc) (ls : Array Slot) (hP : va_P D vwCl (wL cI cS aR aM X M) H) (hD : va_D A (wL cI cS aR aM X M)) (hS : va_S A s.heap H locs) (hl : lv_has ls 4 [(0, .ref b), (1, .ref (aR 0)), (2, .ref (aM 0)), (3, .int x3)]) : W p l e room_1 s m #[Value.ref b] below meth c H locs 146 9640 Q (F0 m 538 ls []) := by
  obtain ⟨q, hq, hq2⟩ := hs n X M hn hr (xs (x3 + (1 : Int32)).toNatClampNeg)
  refine x_aload_n C dL_law_538 rfl hl 1 rfl ?_
  refine x_aload_n C dL_law_539 rfl hl 0 rfl ?_
  refine x_iload_n C dL_law_540 rfl hl 3 rfl ?_
  refine x_iconst (v := (1 : Int32)) C dL_law_541 (by decide) ?_
  refine x_iadd C dL_law_542 ?_
  refine x_sld C hX hbl hbA hS i1 dL_law_543 ?_
  refine x_callV (As := [.int _]) (n := 1) C (Mc.atL (kX5_live l D cI cS aR _ X hq) (wM cI aM M)) (fun hh => nomatch hh) wm_L_66 wi_X5_live we_X5_live wz_X5 wc_X5_live (by decide +kernel) rfl hP hD hS hA 0 2 rfl rfl rfl hl.1 dL_law_544 rfl (Nat.le_of_ble_eq_true rfl) ⟨Nat.le_of_ble_eq_true rfl, Nat.le_of_ble_eq_true rfl⟩ ⟨Nat.le_of_ble_eq_true rfl, Nat.le_of_ble_eq_true rfl⟩ (fun H locs hP hD hS => ?_)
  refine x_aload_n C dL_law_547 rfl hl 2 rfl ?_
  refine x_aload_n C dL_law_548 rfl hl 0 rfl ?_
  refine x_iload_n C dL_law_549 rfl hl 3 rfl ?_
  refine x_iconst (v := (1 : Int32)) C dL_law_550 (by decide) ?_
  refine x_iadd C dL_law_551 ?_
  refine x_sld C hX hbl hbA hS i1 dL_law_552 ?_
  refine x_callV (As := [.int _]) (n := 1) C (Mc.atR (kX6_live l D cI cS aM _ M hq2) (wR cI cS aR X)) (fun hh => nomatch hh) wm_L_69 wi_X6_live we_X6_live wz_X6 wc_X6_live (by decide +kernel) rfl hP hD hS hA 140 3 (wL_recv cI cS aR aM X M) rfl rfl hl.1 dL_law_553 rfl (Nat.le_of_ble_eq_true rfl) ⟨Nat.le_of_ble_eq_true rfl, Nat.le_of_ble_eq_true rfl⟩ ⟨Nat.le_of_ble_eq_true rfl, Nat.le_of_ble_eq_true rfl⟩ (fun H locs hP hD hS => ?_)
  refine x_eqK (tgt := 821) C rfl dL_law_556 (by decide) ?_
  exact TAIL _ _ (hm _ _ _ hr) _ _ _ hP hD hS hl
theorem dL_law_561 : decode cL_law 561 = .ok (.aload_n 1, 1) := by decide +kernel
theorem dL_law_562 : decode cL_law 562 = .ok (.aload_n 0, 1) := by decide +kernel
theorem dL_law_563 : decode cL_law 563 = .ok (.iload_n 3, 1) := by decide +kernel
theorem dL_law_564 : decode cL_law 564 = .ok (.iconst 1, 1) := by decide +kernel
theorem dL_law_565 : decode cL_law 565 = .ok (.iadd, 1) := by decide +kernel
theorem dL_law_566 : decode cL_law 566 = .ok (.iaload, 1) := by decide +kernel
theorem dL_law_567 : decode cL_law 567 = .ok (.aload_n 0, 1) := by decide +kernel
theorem dL_law_568 : decode cL_law 568 = .ok (.iload_n 3, 1) := by decide +kernel
theorem dL_law_569 : decode cL_law 569 = .ok (.iconst 2, 1) := by decide +kernel
theorem dL_law_570 : decode cL_law 570 = .ok (.iadd, 1) := by decide +kernel
theorem dL_law_571 : decode cL_law 571 = .ok (.iaload, 1) := by decide +kernel
theorem dL_law_572 : decode cL_law 572 = .ok (.invokevirtual 70, 3) := by decide +kernel
theorem dL_law_575 : decode cL_law 575 = .ok (.aload_n 2, 1) := by decide +kernel
theorem dL_law_576 : decode cL_law 576 = .ok (.aload_n 0, 1) := by decide +kernel
theorem dL_law_577 : decode cL_law 577 = .ok (.iload_n 3, 1) := by decide +kernel
theorem dL_law_578 : decode cL_law 578 = .ok (.iconst 1, 1) := by decide +kernel
theorem dL_law_579 : decode cL_law 579 = .ok (.iadd, 1) := by decide +kernel
theorem dL_law_580 : decode cL_law 580 = .ok (.iaload, 1) := by decide +kernel
theorem dL_law_581 : decode cL_law 581 = .ok (.aload_n 0, 1) := by decide +kernel
theorem dL_law_582 : decode cL_law 582 = .ok (.iload_n 3, 1) := by decide +kernel
theorem dL_law_583 : decode cL_law 583 = .ok (.iconst 2, 1) := by decide +kernel
theorem dL_law_584 : decode cL_law 584 = .ok (.iadd, 1) := by decide +kernel
theorem dL_law_585 : decode cL_law 585 = .ok (.iaload, 1) := by decide +kernel
theorem dL_law_586 : decode cL_law 586 = .ok (.invokevirtual 73, 3) := by decide +kernel
theorem dL_law_589 : decode cL_law 589 = .ok (.if_icmp .eq 232, 3) := by decide +kernel
theorem dL_law_592 : decode cL_law 592 = .ok (.iconst 0, 1) := by decide +kernel
theorem dL_law_593 : decode cL_law 593 = .ok (.ireturn, 1) := by decide +kernel
set_option maxHeartbeats 4000000 in
set_option maxRecDepth 100000 in
theorem law_request {p : Program} {l : Launch} {e : Env} {s : State} {m : MethodId} {below : List Frame} {meth : Method} {c : Code} {A : Nat → Prop} {Q : State → Prop} {D : va_G} {cI cS : ClassId} {b L : Nat} {xs : Nat → Int32} {aR aM : Nat → Nat} {retL : Option FieldType} (C : Cx p s m #[Value.ref b] meth c RL cL_law 4 retL D (tyL cI cS)) (hA : ∀ q, s.heap.size ≤ q → A q) (hz : ZZ A s s.heap) (hX : va_X b L xs s s.heap) (hbl : b < s.heap.size) (hbA : ¬ A b) {Rel : Nat → RS → MS → Prop} (hs : St_request Rel) (hm : ∀ (n : Nat) (X : RS) (M : MS), Rel n X M → Rel (n + 1) X M) {n : Nat} (hn : n < 512) {x3 : Int32} (i1 : okI (x3 + (1 : Int32)) L) (i2 : okI (x3 + (2 : Int32)) L) (TAIL : ∀ (X : RS) (M : MS), Rel (n + 1) X M → ∀ (H : Heap) (locs : List Loc) (ls : Array Slot), va_P D vwCl (wL cI cS aR aM X M) H → va_D A (wL cI cS aR aM X M) → va_S A s.heap H locs → lv_has ls 4 [(0, .ref b), (1, .ref (aR 0)), (2, .ref (aM 0)), (3, .int x3)] → W p l e room_1 s m #[Value.ref b] below meth c H locs 146 9640 Q (F0 m 821 ls [])) (X : RS) (M : MS) (hr : Rel n X M) (H : Heap) (locs : List Loc) (ls : Array Slot) (hP : va_P D vwCl (wL cI cS aR aM X M) H) (hD : va_D A (wL cI cS aR aM X M)) (hS : va_S A s.heap H locs) (hl : lv_has ls 4 [(0, .ref b), (1, .ref (aR 0)), (2, .ref (aM 0)), (3, .int x3)]) : W p l e room_1 s m #[Value.ref b] below meth c H locs 146 9640 Q (F0 m 561 ls []) := by
  obtain ⟨q, hq, hq2⟩ := hs n X M hn hr (xs (x3 + (1 : Int32)).toNatClampNeg) (xs (x3 + (2 : Int32)).toNatClampNeg)
  refine x_aload_n C dL_law_561 rfl hl 1 rfl ?_
  refine x_aload_n C dL_law_562 rfl hl 0 rfl ?_
  refine x_iload_n C dL_law_563 rfl hl 3 rfl ?_
  refine x_iconst (v := (1 : Int32)) C dL_law_564 (by decide) ?_
  refine x_iadd C dL_law_565 ?_
  refine x_sld C hX hbl hbA hS i1 dL_law_566 ?_
  refine x_aload_n C dL_law_567 rfl hl 0 rfl ?_
  refine x_iload_n C dL_law_568 rfl hl 3 rfl ?_
  refine x_iconst (v := (2 : Int32)) C dL_law_569 (by decide) ?_
  refine x_iadd C dL_law_570 ?_
  refine x_sld C hX hbl hbA hS i2 dL_law_571 ?_
  refine x_callV (As := [.int _, .int _]) (n := 2) C (Mc.atL (kX5_request l D cI cS aR _ _ X hq) (wM cI aM M)) (fun hh => nomatch hh) wm_L_70 wi_X5_request we_X5_request wz_X5 wc_X5_request (by decide +kernel) rfl hP hD hS hA 0 2 rfl rfl rfl hl.1 dL_law_572 rfl (Nat.le_of_ble_eq_true rfl) ⟨Nat.le_of_ble_eq_true rfl, Nat.le_of_ble_eq_true rfl⟩ ⟨Nat.le_of_ble_eq_true rfl, Nat.le_of_ble_eq_true rfl⟩ (fun H locs hP hD hS => ?_)
  refine x_aload_n C dL_law_575 rfl hl 2 rfl ?_
  refine x_aload_n C dL_law_576 rfl hl 0 rfl ?_
  refine x_iload_n C dL_law_577 rfl hl 3 rfl ?_
  refine x_iconst (v := (1 : Int32)) C dL_law_578 (by decide) ?_
  refine x_iadd C dL_law_579 ?_
  refine x_sld C hX hbl hbA hS i1 dL_law_580 ?_
  refine x_aload_n C dL_law_581 rfl hl 0 rfl ?_
  refine x_iload_n C dL_law_582 rfl hl 3 rfl ?_
  refine x_iconst (v := (2 : Int32)) C dL_law_583 (by decide) ?_
  refine x_iadd C dL_law_584 ?_
  refine x_sld C hX hbl hbA hS i2 dL_law_585 ?_
  refine x_callV (As := [.int _, .int _]) (n := 2) C (Mc.atR (kX6_request l D cI cS aM _ _ M hq2) (wR cI cS aR X)) (fun hh => nomatch hh) wm_L_73 wi_X6_request we_X6_request wz_X6 wc_X6_request (by decide +kernel) rfl hP hD hS hA 140 3 (wL_recv cI cS aR aM X M) rfl rfl hl.1 dL_law_586 rfl (Nat.le_of_ble_eq_true rfl) ⟨Nat.le_of_ble_eq_true rfl, Nat.le_of_ble_eq_true rfl⟩ ⟨Nat.le_of_ble_eq_true rfl, Nat.le_of_ble_eq_true rfl⟩ (fun H locs hP hD hS => ?_)
  refine x_eqK (tgt := 821) C rfl dL_law_589 (by decide) ?_
  exact TAIL _ _ (hm _ _ _ hr) _ _ _ hP hD hS hl
theorem dL_law_594 : decode cL_law 594 = .ok (.aload_n 1, 1) := by decide +kernel
theorem dL_law_595 : decode cL_law 595 = .ok (.aload_n 0, 1) := by decide +kernel
theorem dL_law_596 : decode cL_law 596 = .ok (.iload_n 3, 1) := by decide +kernel
theorem dL_law_597 : decode cL_law 597 = .ok (.iconst 1, 1) := by decide +kernel
theorem dL_law_598 : decode cL_law 598 = .ok (.iadd, 1) := by decide +kernel
theorem dL_law_599 : decode cL_law 599 = .ok (.iaload, 1) := by decide +kernel
theorem dL_law_600 : decode cL_law 600 = .ok (.ifCond .eq 7, 3) := by decide +kernel
theorem dL_law_603 : decode cL_law 603 = .ok (.iconst 1, 1) := by decide +kernel
theorem dL_law_604 : decode cL_law 604 = .ok (.goto 4, 3) := by decide +kernel
theorem dL_law_607 : decode cL_law 607 = .ok (.iconst 0, 1) := by decide +kernel
theorem dL_law_608 : decode cL_law 608 = .ok (.aload_n 0, 1) := by decide +kernel
theorem dL_law_609 : decode cL_law 609 = .ok (.iload_n 3, 1) := by decide +kernel
theorem dL_law_610 : decode cL_law 610 = .ok (.iconst 2, 1) := by decide +kernel
theorem dL_law_611 : decode cL_law 611 = .ok (.iadd, 1) := by decide +kernel
theorem dL_law_612 : decode cL_law 612 = .ok (.iaload, 1) := by decide +kernel
theorem dL_law_613 : decode cL_law 613 = .ok (.invokevirtual 74, 3) := by decide +kernel
theorem dL_law_616 : decode cL_law 616 = .ok (.aload_n 2, 1) := by decide +kernel
theorem dL_law_617 : decode cL_law 617 = .ok (.aload_n 0, 1) := by decide +kernel
theorem dL_law_618 : decode cL_law 618 = .ok (.iload_n 3, 1) := by decide +kernel
theorem dL_law_619 : decode cL_law 619 = .ok (.iconst 1, 1) := by decide +kernel
theorem dL_law_620 : decode cL_law 620 = .ok (.iadd, 1) := by decide +kernel
theorem dL_law_621 : decode cL_law 621 = .ok (.iaload, 1) := by decide +kernel
theorem dL_law_622 : decode cL_law 622 = .ok (.ifCond .eq 7, 3) := by decide +kernel
theorem dL_law_625 : decode cL_law 625 = .ok (.iconst 1, 1) := by decide +kernel
theorem dL_law_626 : decode cL_law 626 = .ok (.goto 4, 3) := by decide +kernel
theorem dL_law_629 : decode cL_law 629 = .ok (.iconst 0, 1) := by decide +kernel
theorem dL_law_630 : decode cL_law 630 = .ok (.aload_n 0, 1) := by decide +kernel
theorem dL_law_631 : decode cL_law 631 = .ok (.iload_n 3, 1) := by decide +kernel
theorem dL_law_632 : decode cL_law 632 = .ok (.iconst 2, 1) := by decide +kernel
theorem dL_law_633 : decode cL_law 633 = .ok (.iadd, 1) := by decide +kernel
theorem dL_law_634 : decode cL_law 634 = .ok (.iaload, 1) := by decide +kernel
theorem dL_law_635 : decode cL_law 635 = .ok (.invokevirtual 78, 3) := by decide +kernel
theorem dL_law_638 : decode cL_law 638 = .ok (.if_icmp .eq 183, 3) := by decide +kernel
theorem dL_law_641 : decode cL_law 641 = .ok (.iconst 0, 1) := by decide +kernel
theorem dL_law_642 : decode cL_law 642 = .ok (.ireturn, 1) := by decide +kernel
set_option maxHeartbeats 4000000 in
set_option maxRecDepth 100000 in
theorem law_queued {p : Program} {l : Launch} {e : Env} {s : State} {m : MethodId} {below : List Frame} {meth : Method} {c : Code} {A : Nat → Prop} {Q : State → Prop} {D : va_G} {cI cS : ClassId} {b L : Nat} {xs : Nat → Int32} {aR aM : Nat → Nat} {retL : Option FieldType} (C : Cx p s m #[Value.ref b] meth c RL cL_law 4 retL D (tyL cI cS)) (hA : ∀ q, s.heap.size ≤ q → A q) (hz : ZZ A s s.heap) (hX : va_X b L xs s s.heap) (hbl : b < s.heap.size) (hbA : ¬ A b) {Rel : Nat → RS → MS → Prop} (hs : St_queued Rel) (hm : ∀ (n : Nat) (X : RS) (M : MS), Rel n X M → Rel (n + 1) X M) {n : Nat} (hn : n < 512) {x3 : Int32} (i1 : okI (x3 + (1 : Int32)) L) (i2 : okI (x3 + (2 : Int32)) L) (TAIL : ∀ (X : RS) (M : MS), Rel (n + 1) X M → ∀ (H : Heap) (locs : List Loc) (ls : Array Slot), va_P D vwCl (wL cI cS aR aM X M) H → va_D A (wL cI cS aR aM X M) → va_S A s.heap H locs → lv_has ls 4 [(0, .ref b), (1, .ref (aR 0)), (2, .ref (aM 0)), (3, .int x3)] → W p l e room_1 s m #[Value.ref b] below meth c H locs 146 9640 Q (F0 m 821 ls [])) (X : RS) (M : MS) (hr : Rel n X M) (H : Heap) (locs : List Loc) (ls : Array Slot) (hP : va_P D vwCl (wL cI cS aR aM X M) H) (hD : va_D A (wL cI cS aR aM X M)) (hS : va_S A s.heap H locs) (hl : lv_has ls 4 [(0, .ref b), (1, .ref (aR 0)), (2, .ref (aM 0)), (3, .int x3)]) : W p l e room_1 s m #[Value.ref b] below meth c H locs 146 9640 Q (F0 m 594 ls []) := by
  by_cases hb : (xs (x3 + (1 : Int32)).toNatClampNeg) = 0
  · obtain ⟨q, hq, hq2⟩ := hs n X M hn hr (0 : Int32) (xs (x3 + (2 : Int32)).toNatClampNeg) (Or.inl rfl)
    refine x_aload_n C dL_law_594 rfl hl 1 rfl ?_
    refine x_aload_n C dL_law_595 rfl hl 0 rfl ?_
    refine x_iload_n C dL_law_596 rfl hl 3 rfl ?_
    refine x_iconst (v := (1 : Int32)) C dL_law_597 (by decide) ?_
    refine x_iadd C dL_law_598 ?_
    refine x_sld C hX hbl hbA hS i1 dL_law_599 ?_
    refine x_zeroK (tgt := 607) C hb dL_law_600 (by decide) ?_
    refine x_iconst (v := (0 : Int32)) C dL_law_607 (by decide) ?_
    refine x_aload_n C dL_law_608 rfl hl 0 rfl ?_
    refine x_iload_n C dL_law_609 rfl hl 3 rfl ?_
    refine x_iconst (v := (2 : Int32)) C dL_law_610 (by decide) ?_
    refine x_iadd C dL_law_611 ?_
    refine x_sld C hX hbl hbA hS i2 dL_law_612 ?_
    refine x_callV (As := [.int _, .int _]) (n := 2) C (Mc.atL (kX5_queued l D cI cS aR _ _ X hq) (wM cI aM M)) (fun hh => nomatch hh) wm_L_74 wi_X5_queued we_X5_queued wz_X5 wc_X5_queued (by decide +kernel) rfl hP hD hS hA 0 2 rfl rfl rfl hl.1 dL_law_613 rfl (Nat.le_of_ble_eq_true rfl) ⟨Nat.le_of_ble_eq_true rfl, Nat.le_of_ble_eq_true rfl⟩ ⟨Nat.le_of_ble_eq_true rfl, Nat.le_of_ble_eq_true rfl⟩ (fun H locs hP hD hS => ?_)
    refine x_aload_n C dL_law_616 rfl hl 2 rfl ?_
    refine x_aload_n C dL_law_617 rfl hl 0 rfl ?_
    refine x_iload_n C dL_law_618 rfl hl 3 rfl ?_
    refine x_iconst (v := (1 : Int32)) C dL_law_619 (by decide) ?_
    refine x_iadd C dL_law_620 ?_
    refine x_sld C hX hbl hbA hS i1 dL_law_621 ?_
    refine x_zeroK (tgt := 629) C hb dL_law_622 (by decide) ?_
    refine x_iconst (v := (0 : Int32)) C dL_law_629 (by decide) ?_
    refine x_aload_n C dL_law_630 rfl hl 0 rfl ?_
    refine x_iload_n C dL_law_631 rfl hl 3 rfl ?_
    refine x_iconst (v := (2 : Int32)) C dL_law_632 (by decide) ?_
    refine x_iadd C dL_law_633 ?_
    refine x_sld C hX hbl hbA hS i2 dL_law_634 ?_
    refine x_callV (As := [.int _, .int _]) (n := 2) C (Mc.atR (kX6_queued l D cI cS aM _ _ M hq2) (wR cI cS aR X)) (fun hh => nomatch hh) wm_L_78 wi_X6_queued we_X6_queued wz_X6 wc_X6_queued (by decide +kernel) rfl hP hD hS hA 140 3 (wL_recv cI cS aR aM X M) rfl rfl hl.1 dL_law_635 rfl (Nat.le_of_ble_eq_true rfl) ⟨Nat.le_of_ble_eq_true rfl, Nat.le_of_ble_eq_true rfl⟩ ⟨Nat.le_of_ble_eq_true rfl, Nat.le_of_ble_eq_true rfl⟩ (fun H locs hP hD hS => ?_)
    refine x_eqK (tgt := 821) C rfl dL_law_638 (by decide) ?_
    exact TAIL _ _ (hm _ _ _ hr) _ _ _ hP hD hS hl
  · obtain ⟨q, hq, hq2⟩ := hs n X M hn hr (1 : Int32) (xs (x3 + (2 : Int32)).toNatClampNeg) (Or.inr rfl)
    refine x_aload_n C dL_law_594 rfl hl 1 rfl ?_
    refine x_aload_n C dL_law_595 rfl hl 0 rfl ?_
    refine x_iload_n C dL_law_596 rfl hl 3 rfl ?_
    refine x_iconst (v := (1 : Int32)) C dL_law_597 (by decide) ?_
    refine x_iadd C dL_law_598 ?_
    refine x_sld C hX hbl hbA hS i1 dL_law_599 ?_
    refine x_nzK (tgt := 607) C hb dL_law_600 (by decide) ?_
    refine x_iconst (v := (1 : Int32)) C dL_law_603 (by decide) ?_
    refine x_goto (tgt := 608) C dL_law_604 (by decide) ?_
    refine x_aload_n C dL_law_608 rfl hl 0 rfl ?_
    refine x_iload_n C dL_law_609 rfl hl 3 rfl ?_
    refine x_iconst (v := (2 : Int32)) C dL_law_610 (by decide) ?_
    refine x_iadd C dL_law_611 ?_
    refine x_sld C hX hbl hbA hS i2 dL_law_612 ?_
    refine x_callV (As := [.int _, .int _]) (n := 2) C (Mc.atL (kX5_queued l D cI cS aR _ _ X hq) (wM cI aM M)) (fun hh => nomatch hh) wm_L_74 wi_X5_queued we_X5_queued wz_X5 wc_X5_queued (by decide +kernel) rfl hP hD hS hA 0 2 rfl rfl rfl hl.1 dL_law_613 rfl (Nat.le_of_ble_eq_true rfl) ⟨Nat.le_of_ble_eq_true rfl, Nat.le_of_ble_eq_true rfl⟩ ⟨Nat.le_of_ble_eq_true rfl, Nat.le_of_ble_eq_true rfl⟩ (fun H locs hP hD hS => ?_)
    refine x_aload_n C dL_law_616 rfl hl 2 rfl ?_
    refine x_aload_n C dL_law_617 rfl hl 0 rfl ?_
    refine x_iload_n C dL_law_618 rfl hl 3 rfl ?_
    refine x_iconst (v := (1 : Int32)) C dL_law_619 (by decide) ?_
    refine x_iadd C dL_law_620 ?_
    refine x_sld C hX hbl hbA hS i1 dL_law_621 ?_
    refine x_nzK (tgt := 629) C hb dL_law_622 (by decide) ?_
    refine x_iconst (v := (1 : Int32)) C dL_law_625 (by decide) ?_
    refine x_goto (tgt := 630) C dL_law_626 (by decide) ?_
    refine x_aload_n C dL_law_630 rfl hl 0 rfl ?_
    refine x_iload_n C dL_law_631 rfl hl 3 rfl ?_
    refine x_iconst (v := (2 : Int32)) C dL_law_632 (by decide) ?_
    refine x_iadd C dL_law_633 ?_
    refine x_sld C hX hbl hbA hS i2 dL_law_634 ?_
    refine x_callV (As := [.int _, .int _]) (n := 2) C (Mc.atR (kX6_queued l D cI cS aM _ _ M hq2) (wR cI cS aR X)) (fun hh => nomatch hh) wm_L_78 wi_X6_queued we_X6_queued wz_X6 wc_X6_queued (by decide +kernel) rfl hP hD hS hA 140 3 (wL_recv cI cS aR aM X M) rfl rfl hl.1 dL_law_635 rfl (Nat.le_of_ble_eq_true rfl) ⟨Nat.le_of_ble_eq_true rfl, Nat.le_of_ble_eq_true rfl⟩ ⟨Nat.le_of_ble_eq_true rfl, Nat.le_of_ble_eq_true rfl⟩ (fun H locs hP hD hS => ?_)
    refine x_eqK (tgt := 821) C rfl dL_law_638 (by decide) ?_
    exact TAIL _ _ (hm _ _ _ hr) _ _ _ hP hD hS hl
theorem dL_law_643 : decode cL_law 643 = .ok (.aload_n 1, 1) := by decide +kernel
theorem dL_law_644 : decode cL_law 644 = .ok (.aload_n 0, 1) := by decide +kernel
theorem dL_law_645 : decode cL_law 645 = .ok (.iload_n 3, 1) := by decide +kernel
theorem dL_law_646 : decode cL_law 646 = .ok (.iconst 1, 1) := by decide +kernel
theorem dL_law_647 : decode cL_law 647 = .ok (.iadd, 1) := by decide +kernel
theorem dL_law_648 : decode cL_law 648 = .ok (.iaload, 1) := by decide +kernel
theorem dL_law_649 : decode cL_law 649 = .ok (.ifCond .eq 7, 3) := by decide +kernel
theorem dL_law_652 : decode cL_law 652 = .ok (.iconst 1, 1) := by decide +kernel
theorem dL_law_653 : decode cL_law 653 = .ok (.goto 4, 3) := by decide +kernel
theorem dL_law_656 : decode cL_law 656 = .ok (.iconst 0, 1) := by decide +kernel
theorem dL_law_657 : decode cL_law 657 = .ok (.aload_n 0, 1) := by decide +kernel
theorem dL_law_658 : decode cL_law 658 = .ok (.iload_n 3, 1) := by decide +kernel
theorem dL_law_659 : decode cL_law 659 = .ok (.iconst 2, 1) := by decide +kernel
theorem dL_law_660 : decode cL_law 660 = .ok (.iadd, 1) := by decide +kernel
theorem dL_law_661 : decode cL_law 661 = .ok (.iaload, 1) := by decide +kernel
theorem dL_law_662 : decode cL_law 662 = .ok (.invokevirtual 79, 3) := by decide +kernel
theorem dL_law_665 : decode cL_law 665 = .ok (.aload_n 2, 1) := by decide +kernel
theorem dL_law_666 : decode cL_law 666 = .ok (.aload_n 0, 1) := by decide +kernel
theorem dL_law_667 : decode cL_law 667 = .ok (.iload_n 3, 1) := by decide +kernel
theorem dL_law_668 : decode cL_law 668 = .ok (.iconst 1, 1) := by decide +kernel
theorem dL_law_669 : decode cL_law 669 = .ok (.iadd, 1) := by decide +kernel
theorem dL_law_670 : decode cL_law 670 = .ok (.iaload, 1) := by decide +kernel
theorem dL_law_671 : decode cL_law 671 = .ok (.ifCond .eq 7, 3) := by decide +kernel
theorem dL_law_674 : decode cL_law 674 = .ok (.iconst 1, 1) := by decide +kernel
theorem dL_law_675 : decode cL_law 675 = .ok (.goto 4, 3) := by decide +kernel
theorem dL_law_678 : decode cL_law 678 = .ok (.iconst 0, 1) := by decide +kernel
theorem dL_law_679 : decode cL_law 679 = .ok (.aload_n 0, 1) := by decide +kernel
theorem dL_law_680 : decode cL_law 680 = .ok (.iload_n 3, 1) := by decide +kernel
theorem dL_law_681 : decode cL_law 681 = .ok (.iconst 2, 1) := by decide +kernel
theorem dL_law_682 : decode cL_law 682 = .ok (.iadd, 1) := by decide +kernel
theorem dL_law_683 : decode cL_law 683 = .ok (.iaload, 1) := by decide +kernel
theorem dL_law_684 : decode cL_law 684 = .ok (.invokevirtual 82, 3) := by decide +kernel
theorem dL_law_687 : decode cL_law 687 = .ok (.if_icmp .eq 134, 3) := by decide +kernel
theorem dL_law_690 : decode cL_law 690 = .ok (.iconst 0, 1) := by decide +kernel
theorem dL_law_691 : decode cL_law 691 = .ok (.ireturn, 1) := by decide +kernel
set_option maxHeartbeats 4000000 in
set_option maxRecDepth 100000 in
theorem law_atWorker {p : Program} {l : Launch} {e : Env} {s : State} {m : MethodId} {below : List Frame} {meth : Method} {c : Code} {A : Nat → Prop} {Q : State → Prop} {D : va_G} {cI cS : ClassId} {b L : Nat} {xs : Nat → Int32} {aR aM : Nat → Nat} {retL : Option FieldType} (C : Cx p s m #[Value.ref b] meth c RL cL_law 4 retL D (tyL cI cS)) (hA : ∀ q, s.heap.size ≤ q → A q) (hz : ZZ A s s.heap) (hX : va_X b L xs s s.heap) (hbl : b < s.heap.size) (hbA : ¬ A b) {Rel : Nat → RS → MS → Prop} (hs : St_atWorker Rel) (hm : ∀ (n : Nat) (X : RS) (M : MS), Rel n X M → Rel (n + 1) X M) {n : Nat} (hn : n < 512) {x3 : Int32} (i1 : okI (x3 + (1 : Int32)) L) (i2 : okI (x3 + (2 : Int32)) L) (TAIL : ∀ (X : RS) (M : MS), Rel (n + 1) X M → ∀ (H : Heap) (locs : List Loc) (ls : Array Slot), va_P D vwCl (wL cI cS aR aM X M) H → va_D A (wL cI cS aR aM X M) → va_S A s.heap H locs → lv_has ls 4 [(0, .ref b), (1, .ref (aR 0)), (2, .ref (aM 0)), (3, .int x3)] → W p l e room_1 s m #[Value.ref b] below meth c H locs 146 9640 Q (F0 m 821 ls [])) (X : RS) (M : MS) (hr : Rel n X M) (H : Heap) (locs : List Loc) (ls : Array Slot) (hP : va_P D vwCl (wL cI cS aR aM X M) H) (hD : va_D A (wL cI cS aR aM X M)) (hS : va_S A s.heap H locs) (hl : lv_has ls 4 [(0, .ref b), (1, .ref (aR 0)), (2, .ref (aM 0)), (3, .int x3)]) : W p l e room_1 s m #[Value.ref b] below meth c H locs 146 9640 Q (F0 m 643 ls []) := by
  by_cases hb : (xs (x3 + (1 : Int32)).toNatClampNeg) = 0
  · obtain ⟨q, hq, hq2⟩ := hs n X M hn hr (0 : Int32) (xs (x3 + (2 : Int32)).toNatClampNeg) (Or.inl rfl)
    refine x_aload_n C dL_law_643 rfl hl 1 rfl ?_
    refine x_aload_n C dL_law_644 rfl hl 0 rfl ?_
    refine x_iload_n C dL_law_645 rfl hl 3 rfl ?_
    refine x_iconst (v := (1 : Int32)) C dL_law_646 (by decide) ?_
    refine x_iadd C dL_law_647 ?_
    refine x_sld C hX hbl hbA hS i1 dL_law_648 ?_
    refine x_zeroK (tgt := 656) C hb dL_law_649 (by decide) ?_
    refine x_iconst (v := (0 : Int32)) C dL_law_656 (by decide) ?_
    refine x_aload_n C dL_law_657 rfl hl 0 rfl ?_
    refine x_iload_n C dL_law_658 rfl hl 3 rfl ?_
    refine x_iconst (v := (2 : Int32)) C dL_law_659 (by decide) ?_
    refine x_iadd C dL_law_660 ?_
    refine x_sld C hX hbl hbA hS i2 dL_law_661 ?_
    refine x_callV (As := [.int _, .int _]) (n := 2) C (Mc.atL (kX5_atWorker l D cI cS aR _ _ X hq) (wM cI aM M)) (fun hh => nomatch hh) wm_L_79 wi_X5_atWorker we_X5_atWorker wz_X5 wc_X5_atWorker (by decide +kernel) rfl hP hD hS hA 0 2 rfl rfl rfl hl.1 dL_law_662 rfl (Nat.le_of_ble_eq_true rfl) ⟨Nat.le_of_ble_eq_true rfl, Nat.le_of_ble_eq_true rfl⟩ ⟨Nat.le_of_ble_eq_true rfl, Nat.le_of_ble_eq_true rfl⟩ (fun H locs hP hD hS => ?_)
    refine x_aload_n C dL_law_665 rfl hl 2 rfl ?_
    refine x_aload_n C dL_law_666 rfl hl 0 rfl ?_
    refine x_iload_n C dL_law_667 rfl hl 3 rfl ?_
    refine x_iconst (v := (1 : Int32)) C dL_law_668 (by decide) ?_
    refine x_iadd C dL_law_669 ?_
    refine x_sld C hX hbl hbA hS i1 dL_law_670 ?_
    refine x_zeroK (tgt := 678) C hb dL_law_671 (by decide) ?_
    refine x_iconst (v := (0 : Int32)) C dL_law_678 (by decide) ?_
    refine x_aload_n C dL_law_679 rfl hl 0 rfl ?_
    refine x_iload_n C dL_law_680 rfl hl 3 rfl ?_
    refine x_iconst (v := (2 : Int32)) C dL_law_681 (by decide) ?_
    refine x_iadd C dL_law_682 ?_
    refine x_sld C hX hbl hbA hS i2 dL_law_683 ?_
    refine x_callV (As := [.int _, .int _]) (n := 2) C (Mc.atR (kX6_atWorker l D cI cS aM _ _ M hq2) (wR cI cS aR X)) (fun hh => nomatch hh) wm_L_82 wi_X6_atWorker we_X6_atWorker wz_X6 wc_X6_atWorker (by decide +kernel) rfl hP hD hS hA 140 3 (wL_recv cI cS aR aM X M) rfl rfl hl.1 dL_law_684 rfl (Nat.le_of_ble_eq_true rfl) ⟨Nat.le_of_ble_eq_true rfl, Nat.le_of_ble_eq_true rfl⟩ ⟨Nat.le_of_ble_eq_true rfl, Nat.le_of_ble_eq_true rfl⟩ (fun H locs hP hD hS => ?_)
    refine x_eqK (tgt := 821) C rfl dL_law_687 (by decide) ?_
    exact TAIL _ _ (hm _ _ _ hr) _ _ _ hP hD hS hl
  · obtain ⟨q, hq, hq2⟩ := hs n X M hn hr (1 : Int32) (xs (x3 + (2 : Int32)).toNatClampNeg) (Or.inr rfl)
    refine x_aload_n C dL_law_643 rfl hl 1 rfl ?_
    refine x_aload_n C dL_law_644 rfl hl 0 rfl ?_
    refine x_iload_n C dL_law_645 rfl hl 3 rfl ?_
    refine x_iconst (v := (1 : Int32)) C dL_law_646 (by decide) ?_
    refine x_iadd C dL_law_647 ?_
    refine x_sld C hX hbl hbA hS i1 dL_law_648 ?_
    refine x_nzK (tgt := 656) C hb dL_law_649 (by decide) ?_
    refine x_iconst (v := (1 : Int32)) C dL_law_652 (by decide) ?_
    refine x_goto (tgt := 657) C dL_law_653 (by decide) ?_
    refine x_aload_n C dL_law_657 rfl hl 0 rfl ?_
    refine x_iload_n C dL_law_658 rfl hl 3 rfl ?_
    refine x_iconst (v := (2 : Int32)) C dL_law_659 (by decide) ?_
    refine x_iadd C dL_law_660 ?_
    refine x_sld C hX hbl hbA hS i2 dL_law_661 ?_
    refine x_callV (As := [.int _, .int _]) (n := 2) C (Mc.atL (kX5_atWorker l D cI cS aR _ _ X hq) (wM cI aM M)) (fun hh => nomatch hh) wm_L_79 wi_X5_atWorker we_X5_atWorker wz_X5 wc_X5_atWorker (by decide +kernel) rfl hP hD hS hA 0 2 rfl rfl rfl hl.1 dL_law_662 rfl (Nat.le_of_ble_eq_true rfl) ⟨Nat.le_of_ble_eq_true rfl, Nat.le_of_ble_eq_true rfl⟩ ⟨Nat.le_of_ble_eq_true rfl, Nat.le_of_ble_eq_true rfl⟩ (fun H locs hP hD hS => ?_)
    refine x_aload_n C dL_law_665 rfl hl 2 rfl ?_
    refine x_aload_n C dL_law_666 rfl hl 0 rfl ?_
    refine x_iload_n C dL_law_667 rfl hl 3 rfl ?_
    refine x_iconst (v := (1 : Int32)) C dL_law_668 (by decide) ?_
    refine x_iadd C dL_law_669 ?_
    refine x_sld C hX hbl hbA hS i1 dL_law_670 ?_
    refine x_nzK (tgt := 678) C hb dL_law_671 (by decide) ?_
    refine x_iconst (v := (1 : Int32)) C dL_law_674 (by decide) ?_
    refine x_goto (tgt := 679) C dL_law_675 (by decide) ?_
    refine x_aload_n C dL_law_679 rfl hl 0 rfl ?_
    refine x_iload_n C dL_law_680 rfl hl 3 rfl ?_
    refine x_iconst (v := (2 : Int32)) C dL_law_681 (by decide) ?_
    refine x_iadd C dL_law_682 ?_
    refine x_sld C hX hbl hbA hS i2 dL_law_683 ?_
    refine x_callV (As := [.int _, .int _]) (n := 2) C (Mc.atR (kX6_atWorker l D cI cS aM _ _ M hq2) (wR cI cS aR X)) (fun hh => nomatch hh) wm_L_82 wi_X6_atWorker we_X6_atWorker wz_X6 wc_X6_atWorker (by decide +kernel) rfl hP hD hS hA 140 3 (wL_recv cI cS aR aM X M) rfl rfl hl.1 dL_law_684 rfl (Nat.le_of_ble_eq_true rfl) ⟨Nat.le_of_ble_eq_true rfl, Nat.le_of_ble_eq_true rfl⟩ ⟨Nat.le_of_ble_eq_true rfl, Nat.le_of_ble_eq_true rfl⟩ (fun H locs hP hD hS => ?_)
    refine x_eqK (tgt := 821) C rfl dL_law_687 (by decide) ?_
    exact TAIL _ _ (hm _ _ _ hr) _ _ _ hP hD hS hl
theorem dL_law_692 : decode cL_law 692 = .ok (.aload_n 1, 1) := by decide +kernel
theorem dL_law_693 : decode cL_law 693 = .ok (.aload_n 0, 1) := by decide +kernel
theorem dL_law_694 : decode cL_law 694 = .ok (.iload_n 3, 1) := by decide +kernel
theorem dL_law_695 : decode cL_law 695 = .ok (.iconst 1, 1) := by decide +kernel
theorem dL_law_696 : decode cL_law 696 = .ok (.iadd, 1) := by decide +kernel
theorem dL_law_697 : decode cL_law 697 = .ok (.iaload, 1) := by decide +kernel
theorem dL_law_698 : decode cL_law 698 = .ok (.aload_n 0, 1) := by decide +kernel
theorem dL_law_699 : decode cL_law 699 = .ok (.iload_n 3, 1) := by decide +kernel
theorem dL_law_700 : decode cL_law 700 = .ok (.iconst 2, 1) := by decide +kernel
theorem dL_law_701 : decode cL_law 701 = .ok (.iadd, 1) := by decide +kernel
theorem dL_law_702 : decode cL_law 702 = .ok (.iaload, 1) := by decide +kernel
theorem dL_law_703 : decode cL_law 703 = .ok (.invokevirtual 83, 3) := by decide +kernel
theorem dL_law_706 : decode cL_law 706 = .ok (.aload_n 2, 1) := by decide +kernel
theorem dL_law_707 : decode cL_law 707 = .ok (.aload_n 0, 1) := by decide +kernel
theorem dL_law_708 : decode cL_law 708 = .ok (.iload_n 3, 1) := by decide +kernel
theorem dL_law_709 : decode cL_law 709 = .ok (.iconst 1, 1) := by decide +kernel
theorem dL_law_710 : decode cL_law 710 = .ok (.iadd, 1) := by decide +kernel
theorem dL_law_711 : decode cL_law 711 = .ok (.iaload, 1) := by decide +kernel
theorem dL_law_712 : decode cL_law 712 = .ok (.aload_n 0, 1) := by decide +kernel
theorem dL_law_713 : decode cL_law 713 = .ok (.iload_n 3, 1) := by decide +kernel
theorem dL_law_714 : decode cL_law 714 = .ok (.iconst 2, 1) := by decide +kernel
theorem dL_law_715 : decode cL_law 715 = .ok (.iadd, 1) := by decide +kernel
theorem dL_law_716 : decode cL_law 716 = .ok (.iaload, 1) := by decide +kernel
theorem dL_law_717 : decode cL_law 717 = .ok (.invokevirtual 86, 3) := by decide +kernel
theorem dL_law_720 : decode cL_law 720 = .ok (.if_icmp .eq 101, 3) := by decide +kernel
theorem dL_law_723 : decode cL_law 723 = .ok (.iconst 0, 1) := by decide +kernel
theorem dL_law_724 : decode cL_law 724 = .ok (.ireturn, 1) := by decide +kernel
set_option maxHeartbeats 4000000 in
set_option maxRecDepth 100000 in
theorem law_window {p : Program} {l : Launch} {e : Env} {s : State} {m : MethodId} {below : List Frame} {meth : Method} {c : Code} {A : Nat → Prop} {Q : State → Prop} {D : va_G} {cI cS : ClassId} {b L : Nat} {xs : Nat → Int32} {aR aM : Nat → Nat} {retL : Option FieldType} (C : Cx p s m #[Value.ref b] meth c RL cL_law 4 retL D (tyL cI cS)) (hA : ∀ q, s.heap.size ≤ q → A q) (hz : ZZ A s s.heap) (hX : va_X b L xs s s.heap) (hbl : b < s.heap.size) (hbA : ¬ A b) {Rel : Nat → RS → MS → Prop} (hs : St_window Rel) (hm : ∀ (n : Nat) (X : RS) (M : MS), Rel n X M → Rel (n + 1) X M) {n : Nat} (hn : n < 512) {x3 : Int32} (i1 : okI (x3 + (1 : Int32)) L) (i2 : okI (x3 + (2 : Int32)) L) (TAIL : ∀ (X : RS) (M : MS), Rel (n + 1) X M → ∀ (H : Heap) (locs : List Loc) (ls : Array Slot), va_P D vwCl (wL cI cS aR aM X M) H → va_D A (wL cI cS aR aM X M) → va_S A s.heap H locs → lv_has ls 4 [(0, .ref b), (1, .ref (aR 0)), (2, .ref (aM 0)), (3, .int x3)] → W p l e room_1 s m #[Value.ref b] below meth c H locs 146 9640 Q (F0 m 821 ls [])) (X : RS) (M : MS) (hr : Rel n X M) (H : Heap) (locs : List Loc) (ls : Array Slot) (hP : va_P D vwCl (wL cI cS aR aM X M) H) (hD : va_D A (wL cI cS aR aM X M)) (hS : va_S A s.heap H locs) (hl : lv_has ls 4 [(0, .ref b), (1, .ref (aR 0)), (2, .ref (aM 0)), (3, .int x3)]) : W p l e room_1 s m #[Value.ref b] below meth c H locs 146 9640 Q (F0 m 692 ls []) := by
  obtain ⟨q, hq, hq2⟩ := hs n X M hn hr (xs (x3 + (1 : Int32)).toNatClampNeg) (xs (x3 + (2 : Int32)).toNatClampNeg)
  refine x_aload_n C dL_law_692 rfl hl 1 rfl ?_
  refine x_aload_n C dL_law_693 rfl hl 0 rfl ?_
  refine x_iload_n C dL_law_694 rfl hl 3 rfl ?_
  refine x_iconst (v := (1 : Int32)) C dL_law_695 (by decide) ?_
  refine x_iadd C dL_law_696 ?_
  refine x_sld C hX hbl hbA hS i1 dL_law_697 ?_
  refine x_aload_n C dL_law_698 rfl hl 0 rfl ?_
  refine x_iload_n C dL_law_699 rfl hl 3 rfl ?_
  refine x_iconst (v := (2 : Int32)) C dL_law_700 (by decide) ?_
  refine x_iadd C dL_law_701 ?_
  refine x_sld C hX hbl hbA hS i2 dL_law_702 ?_
  refine x_callV (As := [.int _, .int _]) (n := 2) C (Mc.atL (kX5_window l D cI cS aR _ _ X hq) (wM cI aM M)) (fun hh => nomatch hh) wm_L_83 wi_X5_window we_X5_window wz_X5 wc_X5_window (by decide +kernel) rfl hP hD hS hA 0 2 rfl rfl rfl hl.1 dL_law_703 rfl (Nat.le_of_ble_eq_true rfl) ⟨Nat.le_of_ble_eq_true rfl, Nat.le_of_ble_eq_true rfl⟩ ⟨Nat.le_of_ble_eq_true rfl, Nat.le_of_ble_eq_true rfl⟩ (fun H locs hP hD hS => ?_)
  refine x_aload_n C dL_law_706 rfl hl 2 rfl ?_
  refine x_aload_n C dL_law_707 rfl hl 0 rfl ?_
  refine x_iload_n C dL_law_708 rfl hl 3 rfl ?_
  refine x_iconst (v := (1 : Int32)) C dL_law_709 (by decide) ?_
  refine x_iadd C dL_law_710 ?_
  refine x_sld C hX hbl hbA hS i1 dL_law_711 ?_
  refine x_aload_n C dL_law_712 rfl hl 0 rfl ?_
  refine x_iload_n C dL_law_713 rfl hl 3 rfl ?_
  refine x_iconst (v := (2 : Int32)) C dL_law_714 (by decide) ?_
  refine x_iadd C dL_law_715 ?_
  refine x_sld C hX hbl hbA hS i2 dL_law_716 ?_
  refine x_callV (As := [.int _, .int _]) (n := 2) C (Mc.atR (kX6_window l D cI cS aM _ _ M hq2) (wR cI cS aR X)) (fun hh => nomatch hh) wm_L_86 wi_X6_window we_X6_window wz_X6 wc_X6_window (by decide +kernel) rfl hP hD hS hA 140 3 (wL_recv cI cS aR aM X M) rfl rfl hl.1 dL_law_717 rfl (Nat.le_of_ble_eq_true rfl) ⟨Nat.le_of_ble_eq_true rfl, Nat.le_of_ble_eq_true rfl⟩ ⟨Nat.le_of_ble_eq_true rfl, Nat.le_of_ble_eq_true rfl⟩ (fun H locs hP hD hS => ?_)
  refine x_eqK (tgt := 821) C rfl dL_law_720 (by decide) ?_
  exact TAIL _ _ (hm _ _ _ hr) _ _ _ hP hD hS hl
theorem dL_law_725 : decode cL_law 725 = .ok (.aload_n 1, 1) := by decide +kernel
theorem dL_law_726 : decode cL_law 726 = .ok (.aload_n 0, 1) := by decide +kernel
theorem dL_law_727 : decode cL_law 727 = .ok (.iload_n 3, 1) := by decide +kernel
theorem dL_law_728 : decode cL_law 728 = .ok (.iconst 1, 1) := by decide +kernel
theorem dL_law_729 : decode cL_law 729 = .ok (.iadd, 1) := by decide +kernel
theorem dL_law_730 : decode cL_law 730 = .ok (.iaload, 1) := by decide +kernel
theorem dL_law_731 : decode cL_law 731 = .ok (.invokevirtual 87, 3) := by decide +kernel
theorem dL_law_734 : decode cL_law 734 = .ok (.aload_n 2, 1) := by decide +kernel
theorem dL_law_735 : decode cL_law 735 = .ok (.aload_n 0, 1) := by decide +kernel
theorem dL_law_736 : decode cL_law 736 = .ok (.iload_n 3, 1) := by decide +kernel
theorem dL_law_737 : decode cL_law 737 = .ok (.iconst 1, 1) := by decide +kernel
theorem dL_law_738 : decode cL_law 738 = .ok (.iadd, 1) := by decide +kernel
theorem dL_law_739 : decode cL_law 739 = .ok (.iaload, 1) := by decide +kernel
theorem dL_law_740 : decode cL_law 740 = .ok (.invokevirtual 90, 3) := by decide +kernel
theorem dL_law_743 : decode cL_law 743 = .ok (.if_icmp .eq 78, 3) := by decide +kernel
theorem dL_law_746 : decode cL_law 746 = .ok (.iconst 0, 1) := by decide +kernel
theorem dL_law_747 : decode cL_law 747 = .ok (.ireturn, 1) := by decide +kernel
set_option maxHeartbeats 4000000 in
set_option maxRecDepth 100000 in
theorem law_quiet {p : Program} {l : Launch} {e : Env} {s : State} {m : MethodId} {below : List Frame} {meth : Method} {c : Code} {A : Nat → Prop} {Q : State → Prop} {D : va_G} {cI cS : ClassId} {b L : Nat} {xs : Nat → Int32} {aR aM : Nat → Nat} {retL : Option FieldType} (C : Cx p s m #[Value.ref b] meth c RL cL_law 4 retL D (tyL cI cS)) (hA : ∀ q, s.heap.size ≤ q → A q) (hz : ZZ A s s.heap) (hX : va_X b L xs s s.heap) (hbl : b < s.heap.size) (hbA : ¬ A b) {Rel : Nat → RS → MS → Prop} (hs : St_quiet Rel) (hm : ∀ (n : Nat) (X : RS) (M : MS), Rel n X M → Rel (n + 1) X M) {n : Nat} (hn : n < 512) {x3 : Int32} (i1 : okI (x3 + (1 : Int32)) L) (TAIL : ∀ (X : RS) (M : MS), Rel (n + 1) X M → ∀ (H : Heap) (locs : List Loc) (ls : Array Slot), va_P D vwCl (wL cI cS aR aM X M) H → va_D A (wL cI cS aR aM X M) → va_S A s.heap H locs → lv_has ls 4 [(0, .ref b), (1, .ref (aR 0)), (2, .ref (aM 0)), (3, .int x3)] → W p l e room_1 s m #[Value.ref b] below meth c H locs 146 9640 Q (F0 m 821 ls [])) (X : RS) (M : MS) (hr : Rel n X M) (H : Heap) (locs : List Loc) (ls : Array Slot) (hP : va_P D vwCl (wL cI cS aR aM X M) H) (hD : va_D A (wL cI cS aR aM X M)) (hS : va_S A s.heap H locs) (hl : lv_has ls 4 [(0, .ref b), (1, .ref (aR 0)), (2, .ref (aM 0)), (3, .int x3)]) : W p l e room_1 s m #[Value.ref b] below meth c H locs 146 9640 Q (F0 m 725 ls []) := by
  obtain ⟨q, hq, hq2⟩ := hs n X M hn hr (xs (x3 + (1 : Int32)).toNatClampNeg)
  refine x_aload_n C dL_law_725 rfl hl 1 rfl ?_
  refine x_aload_n C dL_law_726 rfl hl 0 rfl ?_
  refine x_iload_n C dL_law_727 rfl hl 3 rfl ?_
  refine x_iconst (v := (1 : Int32)) C dL_law_728 (by decide) ?_
  refine x_iadd C dL_law_729 ?_
  refine x_sld C hX hbl hbA hS i1 dL_law_730 ?_
  refine x_callV (As := [.int _]) (n := 1) C (Mc.atL (kX5_quiet l D cI cS aR _ X hq) (wM cI aM M)) (fun hh => nomatch hh) wm_L_87 wi_X5_quiet we_X5_quiet wz_X5 wc_X5_quiet (by decide +kernel) rfl hP hD hS hA 0 2 rfl rfl rfl hl.1 dL_law_731 rfl (Nat.le_of_ble_eq_true rfl) ⟨Nat.le_of_ble_eq_true rfl, Nat.le_of_ble_eq_true rfl⟩ ⟨Nat.le_of_ble_eq_true rfl, Nat.le_of_ble_eq_true rfl⟩ (fun H locs hP hD hS => ?_)
  refine x_aload_n C dL_law_734 rfl hl 2 rfl ?_
  refine x_aload_n C dL_law_735 rfl hl 0 rfl ?_
  refine x_iload_n C dL_law_736 rfl hl 3 rfl ?_
  refine x_iconst (v := (1 : Int32)) C dL_law_737 (by decide) ?_
  refine x_iadd C dL_law_738 ?_
  refine x_sld C hX hbl hbA hS i1 dL_law_739 ?_
  refine x_callV (As := [.int _]) (n := 1) C (Mc.atR (kX6_quiet l D cI cS aM _ M hq2) (wR cI cS aR X)) (fun hh => nomatch hh) wm_L_90 wi_X6_quiet we_X6_quiet wz_X6 wc_X6_quiet (by decide +kernel) rfl hP hD hS hA 140 3 (wL_recv cI cS aR aM X M) rfl rfl hl.1 dL_law_740 rfl (Nat.le_of_ble_eq_true rfl) ⟨Nat.le_of_ble_eq_true rfl, Nat.le_of_ble_eq_true rfl⟩ ⟨Nat.le_of_ble_eq_true rfl, Nat.le_of_ble_eq_true rfl⟩ (fun H locs hP hD hS => ?_)
  refine x_eqK (tgt := 821) C rfl dL_law_743 (by decide) ?_
  exact TAIL _ _ (hm _ _ _ hr) _ _ _ hP hD hS hl
theorem dL_law_748 : decode cL_law 748 = .ok (.aload_n 1, 1) := by decide +kernel
theorem dL_law_749 : decode cL_law 749 = .ok (.aload_n 0, 1) := by decide +kernel
theorem dL_law_750 : decode cL_law 750 = .ok (.iload_n 3, 1) := by decide +kernel
theorem dL_law_751 : decode cL_law 751 = .ok (.iconst 1, 1) := by decide +kernel
theorem dL_law_752 : decode cL_law 752 = .ok (.iadd, 1) := by decide +kernel
theorem dL_law_753 : decode cL_law 753 = .ok (.iaload, 1) := by decide +kernel
theorem dL_law_754 : decode cL_law 754 = .ok (.aload_n 0, 1) := by decide +kernel
theorem dL_law_755 : decode cL_law 755 = .ok (.iload_n 3, 1) := by decide +kernel
theorem dL_law_756 : decode cL_law 756 = .ok (.iconst 2, 1) := by decide +kernel
theorem dL_law_757 : decode cL_law 757 = .ok (.iadd, 1) := by decide +kernel
theorem dL_law_758 : decode cL_law 758 = .ok (.iaload, 1) := by decide +kernel
theorem dL_law_759 : decode cL_law 759 = .ok (.invokevirtual 91, 3) := by decide +kernel
theorem dL_law_762 : decode cL_law 762 = .ok (.aload_n 2, 1) := by decide +kernel
theorem dL_law_763 : decode cL_law 763 = .ok (.aload_n 0, 1) := by decide +kernel
theorem dL_law_764 : decode cL_law 764 = .ok (.iload_n 3, 1) := by decide +kernel
theorem dL_law_765 : decode cL_law 765 = .ok (.iconst 1, 1) := by decide +kernel
theorem dL_law_766 : decode cL_law 766 = .ok (.iadd, 1) := by decide +kernel
theorem dL_law_767 : decode cL_law 767 = .ok (.iaload, 1) := by decide +kernel
theorem dL_law_768 : decode cL_law 768 = .ok (.aload_n 0, 1) := by decide +kernel
theorem dL_law_769 : decode cL_law 769 = .ok (.iload_n 3, 1) := by decide +kernel
theorem dL_law_770 : decode cL_law 770 = .ok (.iconst 2, 1) := by decide +kernel
theorem dL_law_771 : decode cL_law 771 = .ok (.iadd, 1) := by decide +kernel
theorem dL_law_772 : decode cL_law 772 = .ok (.iaload, 1) := by decide +kernel
theorem dL_law_773 : decode cL_law 773 = .ok (.invokevirtual 94, 3) := by decide +kernel
theorem dL_law_776 : decode cL_law 776 = .ok (.if_icmp .eq 45, 3) := by decide +kernel
theorem dL_law_779 : decode cL_law 779 = .ok (.iconst 0, 1) := by decide +kernel
theorem dL_law_780 : decode cL_law 780 = .ok (.ireturn, 1) := by decide +kernel
set_option maxHeartbeats 4000000 in
set_option maxRecDepth 100000 in
theorem law_recovery {p : Program} {l : Launch} {e : Env} {s : State} {m : MethodId} {below : List Frame} {meth : Method} {c : Code} {A : Nat → Prop} {Q : State → Prop} {D : va_G} {cI cS : ClassId} {b L : Nat} {xs : Nat → Int32} {aR aM : Nat → Nat} {retL : Option FieldType} (C : Cx p s m #[Value.ref b] meth c RL cL_law 4 retL D (tyL cI cS)) (hA : ∀ q, s.heap.size ≤ q → A q) (hz : ZZ A s s.heap) (hX : va_X b L xs s s.heap) (hbl : b < s.heap.size) (hbA : ¬ A b) {Rel : Nat → RS → MS → Prop} (hs : St_recovery Rel) (hm : ∀ (n : Nat) (X : RS) (M : MS), Rel n X M → Rel (n + 1) X M) {n : Nat} (hn : n < 512) {x3 : Int32} (i1 : okI (x3 + (1 : Int32)) L) (i2 : okI (x3 + (2 : Int32)) L) (TAIL : ∀ (X : RS) (M : MS), Rel (n + 1) X M → ∀ (H : Heap) (locs : List Loc) (ls : Array Slot), va_P D vwCl (wL cI cS aR aM X M) H → va_D A (wL cI cS aR aM X M) → va_S A s.heap H locs → lv_has ls 4 [(0, .ref b), (1, .ref (aR 0)), (2, .ref (aM 0)), (3, .int x3)] → W p l e room_1 s m #[Value.ref b] below meth c H locs 146 9640 Q (F0 m 821 ls [])) (X : RS) (M : MS) (hr : Rel n X M) (H : Heap) (locs : List Loc) (ls : Array Slot) (hP : va_P D vwCl (wL cI cS aR aM X M) H) (hD : va_D A (wL cI cS aR aM X M)) (hS : va_S A s.heap H locs) (hl : lv_has ls 4 [(0, .ref b), (1, .ref (aR 0)), (2, .ref (aM 0)), (3, .int x3)]) : W p l e room_1 s m #[Value.ref b] below meth c H locs 146 9640 Q (F0 m 748 ls []) := by
  obtain ⟨q, hq, hq2⟩ := hs n X M hn hr (xs (x3 + (1 : Int32)).toNatClampNeg) (xs (x3 + (2 : Int32)).toNatClampNeg)
  refine x_aload_n C dL_law_748 rfl hl 1 rfl ?_
  refine x_aload_n C dL_law_749 rfl hl 0 rfl ?_
  refine x_iload_n C dL_law_750 rfl hl 3 rfl ?_
  refine x_iconst (v := (1 : Int32)) C dL_law_751 (by decide) ?_
  refine x_iadd C dL_law_752 ?_
  refine x_sld C hX hbl hbA hS i1 dL_law_753 ?_
  refine x_aload_n C dL_law_754 rfl hl 0 rfl ?_
  refine x_iload_n C dL_law_755 rfl hl 3 rfl ?_
  refine x_iconst (v := (2 : Int32)) C dL_law_756 (by decide) ?_
  refine x_iadd C dL_law_757 ?_
  refine x_sld C hX hbl hbA hS i2 dL_law_758 ?_
  refine x_callV (As := [.int _, .int _]) (n := 2) C (Mc.atL (kX5_recovery l D cI cS aR _ _ X hq) (wM cI aM M)) (fun hh => nomatch hh) wm_L_91 wi_X5_recovery we_X5_recovery wz_X5 wc_X5_recovery (by decide +kernel) rfl hP hD hS hA 0 2 rfl rfl rfl hl.1 dL_law_759 rfl (Nat.le_of_ble_eq_true rfl) ⟨Nat.le_of_ble_eq_true rfl, Nat.le_of_ble_eq_true rfl⟩ ⟨Nat.le_of_ble_eq_true rfl, Nat.le_of_ble_eq_true rfl⟩ (fun H locs hP hD hS => ?_)
  refine x_aload_n C dL_law_762 rfl hl 2 rfl ?_
  refine x_aload_n C dL_law_763 rfl hl 0 rfl ?_
  refine x_iload_n C dL_law_764 rfl hl 3 rfl ?_
  refine x_iconst (v := (1 : Int32)) C dL_law_765 (by decide) ?_
  refine x_iadd C dL_law_766 ?_
  refine x_sld C hX hbl hbA hS i1 dL_law_767 ?_
  refine x_aload_n C dL_law_768 rfl hl 0 rfl ?_
  refine x_iload_n C dL_law_769 rfl hl 3 rfl ?_
  refine x_iconst (v := (2 : Int32)) C dL_law_770 (by decide) ?_
  refine x_iadd C dL_law_771 ?_
  refine x_sld C hX hbl hbA hS i2 dL_law_772 ?_
  refine x_callV (As := [.int _, .int _]) (n := 2) C (Mc.atR (kX6_recovery l D cI cS aM _ _ M hq2) (wR cI cS aR X)) (fun hh => nomatch hh) wm_L_94 wi_X6_recovery we_X6_recovery wz_X6 wc_X6_recovery (by decide +kernel) rfl hP hD hS hA 140 3 (wL_recv cI cS aR aM X M) rfl rfl hl.1 dL_law_773 rfl (Nat.le_of_ble_eq_true rfl) ⟨Nat.le_of_ble_eq_true rfl, Nat.le_of_ble_eq_true rfl⟩ ⟨Nat.le_of_ble_eq_true rfl, Nat.le_of_ble_eq_true rfl⟩ (fun H locs hP hD hS => ?_)
  refine x_eqK (tgt := 821) C rfl dL_law_776 (by decide) ?_
  exact TAIL _ _ (hm _ _ _ hr) _ _ _ hP hD hS hl
theorem dL_law_781 : decode cL_law 781 = .ok (.aload_n 1, 1) := by decide +kernel
theorem dL_law_782 : decode cL_law 782 = .ok (.invokevirtual 95, 3) := by decide +kernel
theorem dL_law_785 : decode cL_law 785 = .ok (.aload_n 2, 1) := by decide +kernel
theorem dL_law_786 : decode cL_law 786 = .ok (.invokevirtual 99, 3) := by decide +kernel
theorem dL_law_789 : decode cL_law 789 = .ok (.if_icmp .eq 32, 3) := by decide +kernel
theorem dL_law_792 : decode cL_law 792 = .ok (.iconst 0, 1) := by decide +kernel
theorem dL_law_793 : decode cL_law 793 = .ok (.ireturn, 1) := by decide +kernel
set_option maxHeartbeats 4000000 in
set_option maxRecDepth 100000 in
theorem law_amplification {p : Program} {l : Launch} {e : Env} {s : State} {m : MethodId} {below : List Frame} {meth : Method} {c : Code} {A : Nat → Prop} {Q : State → Prop} {D : va_G} {cI cS : ClassId} {b L : Nat} {xs : Nat → Int32} {aR aM : Nat → Nat} {retL : Option FieldType} (C : Cx p s m #[Value.ref b] meth c RL cL_law 4 retL D (tyL cI cS)) (hA : ∀ q, s.heap.size ≤ q → A q) (hz : ZZ A s s.heap) (hX : va_X b L xs s s.heap) (hbl : b < s.heap.size) (hbA : ¬ A b) {Rel : Nat → RS → MS → Prop} (hs : St_amplification Rel) (hm : ∀ (n : Nat) (X : RS) (M : MS), Rel n X M → Rel (n + 1) X M) {n : Nat} (hn : n < 512) {x3 : Int32}  (TAIL : ∀ (X : RS) (M : MS), Rel (n + 1) X M → ∀ (H : Heap) (locs : List Loc) (ls : Array Slot), va_P D vwCl (wL cI cS aR aM X M) H → va_D A (wL cI cS aR aM X M) → va_S A s.heap H locs → lv_has ls 4 [(0, .ref b), (1, .ref (aR 0)), (2, .ref (aM 0)), (3, .int x3)] → W p l e room_1 s m #[Value.ref b] below meth c H locs 146 9640 Q (F0 m 821 ls [])) (X : RS) (M : MS) (hr : Rel n X M) (H : Heap) (locs : List Loc) (ls : Array Slot) (hP : va_P D vwCl (wL cI cS aR aM X M) H) (hD : va_D A (wL cI cS aR aM X M)) (hS : va_S A s.heap H locs) (hl : lv_has ls 4 [(0, .ref b), (1, .ref (aR 0)), (2, .ref (aM 0)), (3, .int x3)]) : W p l e room_1 s m #[Value.ref b] below meth c H locs 146 9640 Q (F0 m 781 ls []) := by
  obtain ⟨q, hq, hq2⟩ := hs n X M hn hr 
  refine x_aload_n C dL_law_781 rfl hl 1 rfl ?_
  refine x_callV (As := []) (n := 0) C (Mc.atL (kX5_amplification l D cI cS aR X hq) (wM cI aM M)) (fun hh => nomatch hh) wm_L_95 wi_X5_amplification we_X5_amplification wz_X5 wc_X5_amplification (by decide +kernel) rfl hP hD hS hA 0 2 rfl rfl rfl hl.1 dL_law_782 rfl (Nat.le_of_ble_eq_true rfl) ⟨Nat.le_of_ble_eq_true rfl, Nat.le_of_ble_eq_true rfl⟩ ⟨Nat.le_of_ble_eq_true rfl, Nat.le_of_ble_eq_true rfl⟩ (fun H locs hP hD hS => ?_)
  refine x_aload_n C dL_law_785 rfl hl 2 rfl ?_
  refine x_callV (As := []) (n := 0) C (Mc.atR (kX6_amplification l D cI cS aM M hq2) (wR cI cS aR X)) (fun hh => nomatch hh) wm_L_99 wi_X6_amplification we_X6_amplification wz_X6 wc_X6_amplification (by decide +kernel) rfl hP hD hS hA 140 3 (wL_recv cI cS aR aM X M) rfl rfl hl.1 dL_law_786 rfl (Nat.le_of_ble_eq_true rfl) ⟨Nat.le_of_ble_eq_true rfl, Nat.le_of_ble_eq_true rfl⟩ ⟨Nat.le_of_ble_eq_true rfl, Nat.le_of_ble_eq_true rfl⟩ (fun H locs hP hD hS => ?_)
  refine x_eqK (tgt := 821) C rfl dL_law_789 (by decide) ?_
  exact TAIL _ _ (hm _ _ _ hr) _ _ _ hP hD hS hl
theorem dL_law_794 : decode cL_law 794 = .ok (.aload_n 1, 1) := by decide +kernel
theorem dL_law_795 : decode cL_law 795 = .ok (.invokevirtual 100, 3) := by decide +kernel
theorem dL_law_798 : decode cL_law 798 = .ok (.aload_n 2, 1) := by decide +kernel
theorem dL_law_799 : decode cL_law 799 = .ok (.invokevirtual 103, 3) := by decide +kernel
theorem dL_law_802 : decode cL_law 802 = .ok (.if_icmp .eq 19, 3) := by decide +kernel
theorem dL_law_805 : decode cL_law 805 = .ok (.iconst 0, 1) := by decide +kernel
theorem dL_law_806 : decode cL_law 806 = .ok (.ireturn, 1) := by decide +kernel
set_option maxHeartbeats 4000000 in
set_option maxRecDepth 100000 in
theorem law_undo {p : Program} {l : Launch} {e : Env} {s : State} {m : MethodId} {below : List Frame} {meth : Method} {c : Code} {A : Nat → Prop} {Q : State → Prop} {D : va_G} {cI cS : ClassId} {b L : Nat} {xs : Nat → Int32} {aR aM : Nat → Nat} {retL : Option FieldType} (C : Cx p s m #[Value.ref b] meth c RL cL_law 4 retL D (tyL cI cS)) (hA : ∀ q, s.heap.size ≤ q → A q) (hz : ZZ A s s.heap) (hX : va_X b L xs s s.heap) (hbl : b < s.heap.size) (hbA : ¬ A b) {Rel : Nat → RS → MS → Prop} (hs : St_undo Rel) (hm : ∀ (n : Nat) (X : RS) (M : MS), Rel n X M → Rel (n + 1) X M) {n : Nat} (hn : n < 512) {x3 : Int32}  (TAIL : ∀ (X : RS) (M : MS), Rel (n + 1) X M → ∀ (H : Heap) (locs : List Loc) (ls : Array Slot), va_P D vwCl (wL cI cS aR aM X M) H → va_D A (wL cI cS aR aM X M) → va_S A s.heap H locs → lv_has ls 4 [(0, .ref b), (1, .ref (aR 0)), (2, .ref (aM 0)), (3, .int x3)] → W p l e room_1 s m #[Value.ref b] below meth c H locs 146 9640 Q (F0 m 821 ls [])) (X : RS) (M : MS) (hr : Rel n X M) (H : Heap) (locs : List Loc) (ls : Array Slot) (hP : va_P D vwCl (wL cI cS aR aM X M) H) (hD : va_D A (wL cI cS aR aM X M)) (hS : va_S A s.heap H locs) (hl : lv_has ls 4 [(0, .ref b), (1, .ref (aR 0)), (2, .ref (aM 0)), (3, .int x3)]) : W p l e room_1 s m #[Value.ref b] below meth c H locs 146 9640 Q (F0 m 794 ls []) := by
  obtain ⟨q, r, hq, hq2, hqr, hrel⟩ := hs n X M hn hr 
  refine x_aload_n C dL_law_794 rfl hl 1 rfl ?_
  refine x_callV (As := []) (n := 0) C (Mc.atL (kX5_undo l D cI cS aR X hq) (wM cI aM M)) (fun hh => nomatch hh) wm_L_100 wi_X5_undo we_X5_undo wz_X5 wc_X5_undo (by decide +kernel) rfl hP hD hS hA 0 2 rfl rfl rfl hl.1 dL_law_795 rfl (Nat.le_of_ble_eq_true rfl) ⟨Nat.le_of_ble_eq_true rfl, Nat.le_of_ble_eq_true rfl⟩ ⟨Nat.le_of_ble_eq_true rfl, Nat.le_of_ble_eq_true rfl⟩ (fun H locs hP hD hS => ?_)
  refine x_aload_n C dL_law_798 rfl hl 2 rfl ?_
  refine x_callV (As := []) (n := 0) C (Mc.atR (kX6_undo l D cI cS aM M hq2) (wR cI cS aR q.2)) (fun hh => nomatch hh) wm_L_103 wi_X6_undo we_X6_undo wz_X6 wc_X6_undo (by decide +kernel) rfl hP hD hS hA 140 3 (wL_recv cI cS aR aM q.2 M) rfl rfl hl.1 dL_law_799 rfl (Nat.le_of_ble_eq_true rfl) ⟨Nat.le_of_ble_eq_true rfl, Nat.le_of_ble_eq_true rfl⟩ ⟨Nat.le_of_ble_eq_true rfl, Nat.le_of_ble_eq_true rfl⟩ (fun H locs hP hD hS => ?_)
  refine x_eqK (tgt := 821) C hqr dL_law_802 (by decide) ?_
  exact TAIL _ _ hrel _ _ _ hP hD hS hl
theorem dL_law_807 : decode cL_law 807 = .ok (.aload_n 1, 1) := by decide +kernel
theorem dL_law_808 : decode cL_law 808 = .ok (.invokevirtual 104, 3) := by decide +kernel
theorem dL_law_811 : decode cL_law 811 = .ok (.aload_n 2, 1) := by decide +kernel
theorem dL_law_812 : decode cL_law 812 = .ok (.invokevirtual 108, 3) := by decide +kernel
theorem dL_law_815 : decode cL_law 815 = .ok (.lcmp, 1) := by decide +kernel
theorem dL_law_816 : decode cL_law 816 = .ok (.ifCond .eq 5, 3) := by decide +kernel
theorem dL_law_819 : decode cL_law 819 = .ok (.iconst 0, 1) := by decide +kernel
theorem dL_law_820 : decode cL_law 820 = .ok (.ireturn, 1) := by decide +kernel
set_option maxHeartbeats 4000000 in
set_option maxRecDepth 100000 in
theorem law_digest {p : Program} {l : Launch} {e : Env} {s : State} {m : MethodId} {below : List Frame} {meth : Method} {c : Code} {A : Nat → Prop} {Q : State → Prop} {D : va_G} {cI cS : ClassId} {b L : Nat} {xs : Nat → Int32} {aR aM : Nat → Nat} {retL : Option FieldType} (C : Cx p s m #[Value.ref b] meth c RL cL_law 4 retL D (tyL cI cS)) (hA : ∀ q, s.heap.size ≤ q → A q) (hz : ZZ A s s.heap) (hX : va_X b L xs s s.heap) (hbl : b < s.heap.size) (hbA : ¬ A b) {Rel : Nat → RS → MS → Prop} (hs : St_digest Rel) (hm : ∀ (n : Nat) (X : RS) (M : MS), Rel n X M → Rel (n + 1) X M) {n : Nat} (hn : n < 512) {x3 : Int32}  (TAIL : ∀ (X : RS) (M : MS), Rel (n + 1) X M → ∀ (H : Heap) (locs : List Loc) (ls : Array Slot), va_P D vwCl (wL cI cS aR aM X M) H → va_D A (wL cI cS aR aM X M) → va_S A s.heap H locs → lv_has ls 4 [(0, .ref b), (1, .ref (aR 0)), (2, .ref (aM 0)), (3, .int x3)] → W p l e room_1 s m #[Value.ref b] below meth c H locs 146 9640 Q (F0 m 821 ls [])) (X : RS) (M : MS) (hr : Rel n X M) (H : Heap) (locs : List Loc) (ls : Array Slot) (hP : va_P D vwCl (wL cI cS aR aM X M) H) (hD : va_D A (wL cI cS aR aM X M)) (hS : va_S A s.heap H locs) (hl : lv_has ls 4 [(0, .ref b), (1, .ref (aR 0)), (2, .ref (aM 0)), (3, .int x3)]) : W p l e room_1 s m #[Value.ref b] below meth c H locs 146 9640 Q (F0 m 807 ls []) := by
  obtain ⟨q, hq, hq2⟩ := hs n X M hn hr 
  refine x_aload_n C dL_law_807 rfl hl 1 rfl ?_
  refine x_callV (As := []) (n := 0) C (Mc.atL (kX5_digest l D cI cS aR X hq) (wM cI aM M)) (fun _ => hz) wm_L_104 wi_X5_digest we_X5_digest wz_X5 wc_X5_digest (by decide +kernel) rfl hP hD hS hA 0 2 rfl rfl rfl hl.1 dL_law_808 rfl (Nat.le_of_ble_eq_true rfl) ⟨Nat.le_of_ble_eq_true rfl, Nat.le_of_ble_eq_true rfl⟩ ⟨Nat.le_of_ble_eq_true rfl, Nat.le_of_ble_eq_true rfl⟩ (fun H locs hP hD hS => ?_)
  refine x_aload_n C dL_law_811 rfl hl 2 rfl ?_
  refine x_callV (As := []) (n := 0) C (Mc.atR (kX6_digest l D cI cS aM M hq2) (wR cI cS aR X)) (fun hh => nomatch hh) wm_L_108 wi_X6_digest we_X6_digest wz_X6 wc_X6_digest (by decide +kernel) rfl hP hD hS hA 140 3 (wL_recv cI cS aR aM X M) rfl rfl hl.1 dL_law_812 rfl (Nat.le_of_ble_eq_true rfl) ⟨Nat.le_of_ble_eq_true rfl, Nat.le_of_ble_eq_true rfl⟩ ⟨Nat.le_of_ble_eq_true rfl, Nat.le_of_ble_eq_true rfl⟩ (fun H locs hP hD hS => ?_)
  refine x_lcmp C dL_law_815 ?_
  refine x_zeroK (tgt := 821) C (by simp [lg_cmp]) dL_law_816 (by decide) ?_
  exact TAIL _ _ (hm _ _ _ hr) _ _ _ hP hD hS hl
