/-! a new object and a new reference -/
def clF (j : Nat) : Nat := [0, 0, 20, 3, 10, 2, 16, 0, 2, 0, 20, 10].getD j 0
def svF (j : Nat) : Nat := [2, 8, 1, 4].getD j 0
set_option maxRecDepth 100000 in
theorem i0_C : (initS.1 0).1 = 6 ∧ ∀ i, i < 6 → ∀ j, j < 12 → (initS.1 0).2 i j = nI (clF j) ∧ initM.1 (12 * i + j) = nI (clF j) := by decide +kernel
set_option maxRecDepth 100000 in
theorem i0_S : (initS.1 2).1 = 6 ∧ ∀ i, i < 6 → ∀ j, j < 3 → (initS.1 2).2 i j = 0 ∧ initM.1 (72 + 3 * i + j) = 0 := by decide +kernel
set_option maxRecDepth 100000 in
theorem i0_T : (initS.1 1).1 = 6 ∧ ∀ i, i < 6 → (∀ j, j < 8 → (initS.1 1).2 i j = initM.1 (90 + 8 * i + j)) ∧ (∀ j, j < 6 → (initS.1 1).2 i (8 + j) = initM.1 (138 + 6 * i + j)) ∧ (initS.1 1).2 i 0 = 0 ∧ (initS.1 1).2 i 1 = 0 := by decide +kernel
set_option maxRecDepth 100000 in
theorem i0_V : ((initS.1 3).1 = 4 ∧ ∀ i, i < 4 → (initS.1 3).2 i 0 = nI (svF i) ∧ initM.1 (174 + i) = nI (svF i)) ∧ (initS.1 4).1 = 3 ∧ ∀ i, i < 3 → (initS.1 4).2 i 0 = 0 ∧ initM.1 (179 + i) = 0 := by decide +kernel
set_option maxRecDepth 100000 in
theorem i0_H : (initS.1 10).1 = 64 ∧ ∀ i, i < 64 → ∀ j, j < 4 → (initS.1 10).2 i j = initM.1 (599 + 4 * i + j) := by decide +kernel
set_option maxRecDepth 100000 in
theorem i0_D : initS.2 11 = 0 ∧ initM.1 178 = 0 ∧ initS.2 12 = 0 ∧ initM.1 182 = 0 ∧ initS.2 13 = initM.1 184 ∧ initS.2 14 = 0 ∧ initM.1 183 = 0 ∧ initS.2 15 = 0 ∧ initM.1 185 = 0 ∧ initS.2 16 = initM.1 186 ∧ initS.2 17 = initM.1 187 ∧ initM.2.2 1 = 0 := by decide +kernel
set_option maxRecDepth 100000 in
theorem i0_R : (initS.1 5).1 = 0 ∧ initM.1 188 = 0 ∧ (initS.1 6).1 = 0 ∧ initM.1 557 = 0 ∧ (initS.1 8).1 = 0 ∧ initM.1 574 = 0 ∧ (initS.1 7).1 = 4 ∧ (initS.1 9).1 = 4 := by decide +kernel
set_option maxRecDepth 100000 in
theorem i0_W : ∀ w, w < 4 → initM.1 (591 + w) = -9 ∧ (initS.1 7).2 w 0 = -9 ∧ initM.1 (595 + w) = -9 ∧ (initS.1 9).2 w 0 = -9 := by decide +kernel
set_option maxRecDepth 100000 in
theorem i0_A : ∀ a, a < 24 → initM.1 (317 + 10 * a + 9) = 0 := by decide +kernel
theorem clF_ok : ∀ j, j < 12 → loL j ≤ clF j ∧ clF j ≤ hiL j := by decide
theorem svF_ok : ∀ j, j < 4 → 1 ≤ svF j ∧ svF j ≤ mxS j := by decide
theorem RZ.init : RZ 0 0 0 (fun _ j => clF j) (fun _ _ => 0) svF (fun _ => 0) initS initM.1 := by
  obtain ⟨d1, d2, d3, d4, d5, d6, d7, d8, d9, d10, d11, d12⟩ := i0_D
  obtain ⟨r1, r2, r3, r4, r5, r6, r7, r8⟩ := i0_R
  refine ⟨0, fun _ _ => 0, 0, 0, 0, fun _ => 0, fun _ => 0, fun _ => 0, fun _ => 0, fun _ _ => 0, fun _ => 0, ⟨?_, ?_, ?_, ?_, ?_⟩, ?_, ?_, ?_, ⟨?_, ?_, ?_, ?_, ?_, ?_⟩, ?_⟩
  · exact ⟨i0_C.1, fun i j hi hj => ⟨(i0_C.2 i hi j hj).1, (i0_C.2 i hi j hj).2, (clF_ok j hj).1, (clF_ok j hj).2⟩⟩
  · exact ⟨i0_S.1, fun i hi => ⟨fun j hj => i0_S.2 i hi j hj, Nat.zero_le _, Nat.le_refl _, Nat.zero_le _, fun _ => rfl⟩⟩
  · exact ⟨i0_V.1.1, fun i hi => ⟨(i0_V.1.2 i hi).1, (i0_V.1.2 i hi).2, (svF_ok i hi).1, (svF_ok i hi).2⟩, Nat.zero_le _, Nat.zero_le _⟩
  · exact ⟨i0_V.2.1, fun i hi => ⟨(i0_V.2.2 i hi).1, (i0_V.2.2 i hi).2, Nat.zero_le _⟩⟩
  · exact ⟨i0_H.1, fun i j hi hj => i0_H.2 i hi j hj⟩
  · exact ⟨i0_T.1, fun i hi => ⟨(i0_T.2 i hi).1, (i0_T.2 i hi).2.1, 0, 0, (i0_T.2 i hi).2.2.1, (i0_T.2 i hi).2.2.2, by omega, by omega⟩⟩
  · exact ⟨⟨0, d1, d2, by omega⟩, d3, d4, d5, d6, d7, by omega, ⟨0, d8, d9, by omega, by omega⟩, d10, d11⟩
  · exact ⟨r1, by omega, r2, fun i j hi => absurd hi (by omega), fun i j _ hj => absurd hj (by omega), fun i hi => absurd hi (by omega)⟩
  · exact fun a ha => ⟨i0_A a ha, Nat.zero_le _, fun z => absurd z Nat.zero_ne_one⟩
  · exact ⟨r3, by omega, r4, fun k hk => absurd hk (by omega)⟩
  · exact ⟨r7, fun w hw => ⟨(i0_W w hw).1, fun _ => (i0_W w hw).2.1, fun a ha => absurd (show 0 = a + 1 from ha) (by omega)⟩⟩
  · exact ⟨r5, by omega, r6, fun k hk => absurd hk (by omega), fun k k' hk => absurd hk (by omega)⟩
  · exact ⟨r8, fun w hw => ⟨(i0_W w hw).2.2.2, fun _ => (i0_W w hw).2.2.1, fun f hf => absurd (show 0 = f + 1 from hf) (by omega)⟩, fun w w' _ _ hne => absurd rfl hne, fun f a _ ha => absurd (show 0 = a + 1 from ha) (by omega)⟩
  · exact ⟨fun k k' hk => absurd hk (by omega), fun w w' _ _ hne => absurd rfl hne, fun k w hk => absurd hk (by omega), fun a _ hu => absurd hu Nat.zero_ne_one⟩
  · exact ⟨fun i hi => absurd hi (by omega), fun a _ hu => absurd hu Nat.zero_ne_one⟩
theorem rel_0 (B : Nat → Nat → Nat) : Rel 0 (B, fun _ => initS, 0) initM :=
  ⟨0, by omega, rfl, i0_D.2.2.2.2.2.2.2.2.2.2.2, ⟨0, 0, _, _, _, _, by omega, by omega, RZ.init⟩, fun i hi => absurd hi (by omega)⟩
theorem rel_all : St_all Rel := ⟨fun _ _ _ h => h.mono, set_rel, property_rel, setServer_rel, setDiscipline_rel, setSwitch_rel, surge_rel, run_rel, ifRun_rel, best_rel, count_rel, succeededAt_rel, told_rel, live_rel, request_rel, queued_rel, atWorker_rel, window_rel, quiet_rel, recovery_rel, amplification_rel, undo_rel, digest_rel⟩
