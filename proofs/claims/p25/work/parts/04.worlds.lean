/-! the rows that name the world behind a write; the fields' words; the worlds -/
abbrev tyL (cI cS : ClassId) : List (ClassId × FieldType) := [(cI, .int), (cS, .object "RetryStorm$State")]
theorem x_ifc {ρ : Type} {X Y : Option ρ} {q : ρ} {x v : Int32} (h : (if x = v then X else Y) = some q) : (x = v ∧ X = some q) ∨ (¬ x = v ∧ Y = some q) := by
  by_cases hc : x = v
  · exact Or.inl ⟨hc, (if_pos hc).symm.trans h⟩
  · exact Or.inr ⟨hc, (if_neg hc).symm.trans h⟩
theorem x_ifn {ρ : Type} {X : Option ρ} {q : ρ} {c : Prop} [Decidable c] (h : (if c then X else none) = some q) : c ∧ X = some q := by
  by_cases hc : c
  · exact ⟨hc, (if_pos hc).symm.trans h⟩
  · rw [if_neg hc] at h; cases h
theorem x_tne {x : Int32} {v : Int32} {n : Int} (hv : v.toInt = n) (h : ¬ x = v) : x.toInt ≠ n := fun q => h (Int32.toInt_inj.mp (q.trans hv.symm))
section XM
variable {p : Program} {l : Launch} {e : Env} {R : Room} {s : State} {m : MethodId} {args : Array Value} {below : List Frame} {meth : Method} {c : Code} {H : Heap} {locs : List Loc} {cells slots : Nat} {Q : State → Prop} {own : String} {cc : ByteArray} {nL : Nat} {ret : Option FieldType} {D : va_G} {ty : List (ClassId × FieldType)} {pc index : Nat} {ls : Array Slot} {rest : List Value} {A : Nat → Prop} {H0 : Heap} {ws : va_W} {ρ : Type} {X Y : Option ρ} {q : ρ} {σ : Type}
theorem x_nml {x : Int64} {k : Int64 → Option ρ} (h : nm x k = some q) (kk : ∀ v : Int64, k v = some q → W p l e R s m args below meth c H locs cells slots Q (F0 m pc ls (.long v :: rest))) : W p l e R s m args below meth c H locs cells slots Q (F0 m pc ls (.long x :: rest)) := kk x h
theorem x_tabIn (C : Cx p s m args meth c own cc nL ret D ty) {dflt lo hi : Int} {offs : Array Int} {len : Nat} {x : Int32} {off : Int} {tgt : Nat} (hdg : decode cc pc = .ok (.tableswitch dflt lo hi offs, len)) (h1 : ¬ x.toInt < lo) (h2 : ¬ hi < x.toInt) (ho : offs[(x.toInt - lo).toNat]? = some off) (ht : (pc : Int) + off = (tgt : Int)) (k : W p l e R s m args below meth c H locs cells slots Q (F0 m tgt ls rest)) : W p l e R s m args below meth c H locs cells slots Q (F0 m pc ls (.int x :: rest)) := lv_tableIn C.1 C.2.1 hdg h1 h2 ho ht k
theorem x_nmS (wf : σ → va_W) {E : σ} {k : σ → Option ρ} {G : Prop} (h : nm E k = some q) (hP : va_P D vwCl (wf E) H) (hD : va_D A (wf E)) (kk : ∀ S1 : σ, k S1 = some q → va_P D vwCl (wf S1) H → va_D A (wf S1) → G) : G := kk E h hP hD
theorem x_putM (wf : σ → va_W) {E : σ} {kx : σ → Option ρ} (C : Cx p s m args meth c own cc nL ret D ty) (h : nm E kx = some q) {Cn : String} {T : u_T} {N ci a : Nat} {fs : List Value} {v : Value} (hin : ∀ w ∈ u_ws Cn T N, w ∈ WS) (t0 : Nat → FieldType) (ht0 : ∀ k, k < N → parseFieldDescriptor (T k).2.2.1 = some (t0 k)) (hnm : ∀ a, a < N → ∀ b, b < N → a ≠ b → (T a).2.1 ≠ (T b).2.1) (hP : va_P D vwCl ws H) (hD : va_D A ws) (hS : va_S A H0 H locs) (q0 : Nat) (he : ws[q0]? = some (a, .inr (ci, fs))) (hc : vwCl[ci]? = some (Cn, T, N)) (k : Nat) (hk : k < N) (hw : Cond.fieldLink own index (T k).1 (T k).2.1 (T k).2.2.1 ∈ WS) (hfin : (T k).2.2.2 = false) {ft : FieldType} (hd : parseFieldDescriptor (T k).2.2.1 = some ft) (hn : narrow ft v = v) (hfit : fits ft v = true) (hl : k < fs.length) (hset : ws.set q0 (a, .inr (ci, fs.set k v)) = wf E) (hdg : decode cc pc = .ok (.putfield index, 3))
    (kk : ∀ S1 : σ, kx S1 = some q → ∀ (H1 : Heap) (locs1 : List Loc), va_P D vwCl (wf S1) H1 → va_D A (wf S1) → va_S A H0 H1 locs1 → W p l e R s m args below meth c H1 locs1 cells slots Q (F0 m (pc + 3) ls rest)) : W p l e R s m args below meth c H locs cells slots Q (F0 m pc ls (v :: .ref a :: rest)) :=
  x_put C hin t0 ht0 hnm hP hD hS q0 he hc k hk hw hfin hd hn hfit hl hset hdg (kk E h)
theorem x_iastMK (wf : σ → va_W) {E : σ} {kx : σ → Option ρ} (C : Cx p s m args meth c own cc nL ret D ty) (h : nm E kx = some q) {a t0 : Nat} {cA : ClassId} {n : Nat} {f : Nat → Int32} {i x : Int32} (hin : okI i n) (hP : va_P D vwCl ws H) (hD : va_D A ws) (hS : va_S A H0 H locs) (q0 : Nat) (ha : ws[q0]? = some (a, .inl (cA, n, .inl f))) (ht : ty[t0]? = some (cA, .int)) (hset : ws.set q0 (a, .inl (cA, n, .inl (upd f i.toNatClampNeg x))) = wf E) (hdg : decode cc pc = .ok (.iastore, 1))
    (kk : ∀ S1 : σ, kx S1 = some q → ∀ (H1 : Heap) (locs1 : List Loc), va_P D vwCl (wf S1) H1 → va_D A (wf S1) → va_S A H0 H1 locs1 → W p l e R s m args below meth c H1 locs1 cells slots Q (F0 m (pc + 1) ls rest)) : W p l e R s m args below meth c H locs cells slots Q (F0 m pc ls (.int x :: .int i :: .ref a :: rest)) :=
  x_iastK C hin hP hD hS q0 ha ht hset hdg (kk E h)
theorem x_iastM (wf : σ → va_W) {E : σ} {kx : σ → Option ρ} (C : Cx p s m args meth c own cc nL ret D ty) {a t0 : Nat} {cA : ClassId} {n : Nat} {f : Nat → Int32} {i x : Int32} (h : (if okI i n then nm E kx else none) = some q) (hP : va_P D vwCl ws H) (hD : va_D A ws) (hS : va_S A H0 H locs) (q0 : Nat) (ha : ws[q0]? = some (a, .inl (cA, n, .inl f))) (ht : ty[t0]? = some (cA, .int)) (hset : ws.set q0 (a, .inl (cA, n, .inl (upd f i.toNatClampNeg x))) = wf E) (hdg : decode cc pc = .ok (.iastore, 1))
    (kk : ∀ S1 : σ, kx S1 = some q → ∀ (H1 : Heap) (locs1 : List Loc), va_P D vwCl (wf S1) H1 → va_D A (wf S1) → va_S A H0 H1 locs1 → W p l e R s m args below meth c H1 locs1 cells slots Q (F0 m (pc + 1) ls rest)) : W p l e R s m args below meth c H locs cells slots Q (F0 m pc ls (.int x :: .int i :: .ref a :: rest)) :=
  x_iast C h hP hD hS q0 ha ht hset hdg (kk E)
theorem x_acopyM (wf : σ → va_W) {E : σ} {kx : σ → Option ρ} (C : Cx p s m args meth c own cc nL ret D ty) {sp dp k : Int32} {a a0 n0 n1 t0 t1 : Nat} {c0 c1 : ClassId} {f g : Nat → Int32} (h : (if okC sp dp k n0 n1 then nm E kx else none) = some q) (hl : ls.size = nL) (hw1 : Cond.methodLink own index arraycopyName ∈ WS) (hw2 : Cond.native arraycopyName ∈ WS) (hw3 : Cond.static arraycopyName ∈ WS) (hw4 : Cond.initialized "java/lang/System" ∈ WS)
    (hP : va_P D vwCl ws H) (hD : va_D A ws) (hS : va_S A H0 H locs) (q0 q1 : Nat) (ha0 : ws[q0]? = some (a0, .inl (c0, n0, .inl f))) (ha1 : ws[q1]? = some (a, .inl (c1, n1, .inl g))) (ht0 : ty[t0]? = some (c0, .int)) (ht1 : ty[t1]? = some (c1, .int)) (hset : ws.set q1 (a, .inl (c1, n1, .inl (va_cpy f g sp.toNatClampNeg dp.toNatClampNeg k.toNatClampNeg))) = wf E)
    (hfr : 1 ≤ R.frames) (hlo : (rest.map fun v => v.category).sum + (nativeFrameWords "java/lang/System" "arraycopy" 5 + 11) ≤ R.locals) (hdg : decode cc pc = .ok (.invokestatic index, 3))
    (kk : ∀ S1 : σ, kx S1 = some q → ∀ (H1 : Heap) (locs1 : List Loc), va_P D vwCl (wf S1) H1 → va_D A (wf S1) → va_S A H0 H1 locs1 → W p l e R s m args below meth c H1 locs1 cells slots Q (F0 m (pc + 3) ls rest)) : W p l e R s m args below meth c H locs cells slots Q (F0 m pc ls (.int k :: .int dp :: .ref a :: .int sp :: .ref a0 :: rest)) :=
  x_acopy C h hl hw1 hw2 hw3 hw4 hP hD hS q0 q1 ha0 ha1 ht0 ht1 hset hfr hlo hdg (kk E)
end XM
/-- a table's number of rows in use, and its cells -/
abbrev TV : Type := Int32 × (Nat → Int32)
def wT (cI : ClassId) (t c : Nat) (w : Int32) (n : Nat) (S : TV) : va_W := [(t, .inr (1, [.int w, .ref c, .int S.1])), (c, .inl (cI, n, .inl S.2))]
def wTT (cI : ClassId) (t c : Nat) (w : Int32) (n : Nat) (t2 c2 : Nat) (w2 : Int32) (n2 : Nat) (S : TV × TV) : va_W := [(t, .inr (1, [.int w, .ref c, .int S.1.1])), (c, .inl (cI, n, .inl S.1.2)), (t2, .inr (1, [.int w2, .ref c2, .int S.2.1])), (c2, .inl (cI, n2, .inl S.2.2))]
def wI (cI : ClassId) (a n : Nat) (S : Nat → Int32) : va_W := [(a, .inl (cI, n, .inl S))]
theorem inX2 : ∀ w ∈ u_ws RX2 TX2 18, w ∈ WS := by
  intro w hw
  obtain ⟨k, hk, rfl⟩ := List.mem_map.mp hw
  have hk := List.mem_range.mp hk
  match k, hk with
  | 0, _ => exact wl_X2_clients
  | 1, _ => exact wl_X2_tallies
  | 2, _ => exact wl_X2_surges
  | 3, _ => exact wl_X2_servers
  | 4, _ => exact wl_X2_switches
  | 5, _ => exact wl_X2_requests
  | 6, _ => exact wl_X2_queue
  | 7, _ => exact wl_X2_workers
  | 8, _ => exact wl_X2_backQueue
  | 9, _ => exact wl_X2_backWorkers
  | 10, _ => exact wl_X2_history
  | 11, _ => exact wl_X2_discipline
  | 12, _ => exact wl_X2_clock
  | 13, _ => exact wl_X2_seed
  | 14, _ => exact wl_X2_numbers
  | 15, _ => exact wl_X2_good
  | 16, _ => exact wl_X2_wasted
  | 17, _ => exact wl_X2_longest
  | k + 18, hk => exact absurd hk (by omega)
theorem inX3 : ∀ w ∈ u_ws RX3 TX3 3, w ∈ WS := by
  intro w hw
  obtain ⟨k, hk, rfl⟩ := List.mem_map.mp hw
  have hk := List.mem_range.mp hk
  match k, hk with
  | 0, _ => exact wl_X3_width
  | 1, _ => exact wl_X3_cells
  | 2, _ => exact wl_X3_size
  | k + 3, hk => exact absurd hk (by omega)
theorem inX5 : ∀ w ∈ u_ws RX5 TX5 4, w ∈ WS := by
  intro w hw
  obtain ⟨k, hk, rfl⟩ := List.mem_map.mp hw
  have hk := List.mem_range.mp hk
  match k, hk with
  | 0, _ => exact wl_X5_state
  | 1, _ => exact wl_X5_trial
  | 2, _ => exact wl_X5_recorded
  | 3, _ => exact wl_X5_records
  | k + 4, hk => exact absurd hk (by omega)
theorem x_tabO0_12 {x : Int32} (h0 : ¬ x = 0) (h1 : ¬ x = 1) (h2 : ¬ x = 2) (h3 : ¬ x = 3) (h4 : ¬ x = 4) (h5 : ¬ x = 5) (h6 : ¬ x = 6) (h7 : ¬ x = 7) (h8 : ¬ x = 8) (h9 : ¬ x = 9) (h10 : ¬ x = 10) (h11 : ¬ x = 11) (h12 : ¬ x = 12) : x.toInt < 0 ∨ 12 < x.toInt := by
  have := fun (v : Int32) (n : Int) (hv : v.toInt = n) (h : ¬ x = v) => x_tne hv h
  have g0 := x_tne (n := 0) (by decide) h0
  have g1 := x_tne (n := 1) (by decide) h1
  have g2 := x_tne (n := 2) (by decide) h2
  have g3 := x_tne (n := 3) (by decide) h3
  have g4 := x_tne (n := 4) (by decide) h4
  have g5 := x_tne (n := 5) (by decide) h5
  have g6 := x_tne (n := 6) (by decide) h6
  have g7 := x_tne (n := 7) (by decide) h7
  have g8 := x_tne (n := 8) (by decide) h8
  have g9 := x_tne (n := 9) (by decide) h9
  have g10 := x_tne (n := 10) (by decide) h10
  have g11 := x_tne (n := 11) (by decide) h11
  have g12 := x_tne (n := 12) (by decide) h12
  omega
theorem x_tabO0_3 {x : Int32} (h0 : ¬ x = 0) (h1 : ¬ x = 1) (h2 : ¬ x = 2) (h3 : ¬ x = 3) : x.toInt < 0 ∨ 3 < x.toInt := by
  have := fun (v : Int32) (n : Int) (hv : v.toInt = n) (h : ¬ x = v) => x_tne hv h
  have g0 := x_tne (n := 0) (by decide) h0
  have g1 := x_tne (n := 1) (by decide) h1
  have g2 := x_tne (n := 2) (by decide) h2
  have g3 := x_tne (n := 3) (by decide) h3
  omega
theorem x_tabO0_4 {x : Int32} (h0 : ¬ x = 0) (h1 : ¬ x = 1) (h2 : ¬ x = 2) (h3 : ¬ x = 3) (h4 : ¬ x = 4) : x.toInt < 0 ∨ 4 < x.toInt := by
  have := fun (v : Int32) (n : Int) (hv : v.toInt = n) (h : ¬ x = v) => x_tne hv h
  have g0 := x_tne (n := 0) (by decide) h0
  have g1 := x_tne (n := 1) (by decide) h1
  have g2 := x_tne (n := 2) (by decide) h2
  have g3 := x_tne (n := 3) (by decide) h3
  have g4 := x_tne (n := 4) (by decide) h4
  omega
theorem x_tabO0_2 {x : Int32} (h0 : ¬ x = 0) (h1 : ¬ x = 1) (h2 : ¬ x = 2) : x.toInt < 0 ∨ 2 < x.toInt := by
  have := fun (v : Int32) (n : Int) (hv : v.toInt = n) (h : ¬ x = v) => x_tne hv h
  have g0 := x_tne (n := 0) (by decide) h0
  have g1 := x_tne (n := 1) (by decide) h1
  have g2 := x_tne (n := 2) (by decide) h2
  omega
theorem x_tabO1_3 {x : Int32} (h1 : ¬ x = 1) (h2 : ¬ x = 2) (h3 : ¬ x = 3) : x.toInt < 1 ∨ 3 < x.toInt := by
  have := fun (v : Int32) (n : Int) (hv : v.toInt = n) (h : ¬ x = v) => x_tne hv h
  have g1 := x_tne (n := 1) (by decide) h1
  have g2 := x_tne (n := 2) (by decide) h2
  have g3 := x_tne (n := 3) (by decide) h3
  omega
theorem x_tabO0_21 {x : Int32} (h0 : ¬ x = 0) (h1 : ¬ x = 1) (h2 : ¬ x = 2) (h3 : ¬ x = 3) (h4 : ¬ x = 4) (h5 : ¬ x = 5) (h6 : ¬ x = 6) (h7 : ¬ x = 7) (h8 : ¬ x = 8) (h9 : ¬ x = 9) (h10 : ¬ x = 10) (h11 : ¬ x = 11) (h12 : ¬ x = 12) (h13 : ¬ x = 13) (h14 : ¬ x = 14) (h15 : ¬ x = 15) (h16 : ¬ x = 16) (h17 : ¬ x = 17) (h18 : ¬ x = 18) (h19 : ¬ x = 19) (h20 : ¬ x = 20) (h21 : ¬ x = 21) : x.toInt < 0 ∨ 21 < x.toInt := by
  have := fun (v : Int32) (n : Int) (hv : v.toInt = n) (h : ¬ x = v) => x_tne hv h
  have g0 := x_tne (n := 0) (by decide) h0
  have g1 := x_tne (n := 1) (by decide) h1
  have g2 := x_tne (n := 2) (by decide) h2
  have g3 := x_tne (n := 3) (by decide) h3
  have g4 := x_tne (n := 4) (by decide) h4
  have g5 := x_tne (n := 5) (by decide) h5
  have g6 := x_tne (n := 6) (by decide) h6
  have g7 := x_tne (n := 7) (by decide) h7
  have g8 := x_tne (n := 8) (by decide) h8
  have g9 := x_tne (n := 9) (by decide) h9
  have g10 := x_tne (n := 10) (by decide) h10
  have g11 := x_tne (n := 11) (by decide) h11
  have g12 := x_tne (n := 12) (by decide) h12
  have g13 := x_tne (n := 13) (by decide) h13
  have g14 := x_tne (n := 14) (by decide) h14
  have g15 := x_tne (n := 15) (by decide) h15
  have g16 := x_tne (n := 16) (by decide) h16
  have g17 := x_tne (n := 17) (by decide) h17
  have g18 := x_tne (n := 18) (by decide) h18
  have g19 := x_tne (n := 19) (by decide) h19
  have g20 := x_tne (n := 20) (by decide) h20
  have g21 := x_tne (n := 21) (by decide) h21
  omega
theorem x_tabO2_4 {x : Int32} (h2 : ¬ x = 2) (h3 : ¬ x = 3) (h4 : ¬ x = 4) : x.toInt < 2 ∨ 4 < x.toInt := by
  have := fun (v : Int32) (n : Int) (hv : v.toInt = n) (h : ¬ x = v) => x_tne hv h
  have g2 := x_tne (n := 2) (by decide) h2
  have g3 := x_tne (n := 3) (by decide) h3
  have g4 := x_tne (n := 4) (by decide) h4
  omega
