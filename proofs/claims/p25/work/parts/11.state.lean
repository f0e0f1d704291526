/-! a State: its eleven tables and its numbers (by the fields' numbers); each table's methods in its world -/
theorem arrV_congr {cI : ClassId} {n : Nat} {f g : Nat → Value} (h : ∀ j, j < n → f j = g j) : arrV cI n f = arrV cI n g := by
  unfold arrV
  have e : (fun j : Fin n => f j.val) = fun j : Fin n => g j.val := funext fun j => h j.val j.isLt
  rw [e]
theorem Mc.post {l : Launch} {D : va_G} {ty : List (ClassId × FieldType)} {z : Bool} {y : MethodName} {cc : ByteArray} {nL : Nat} {ret : Option FieldType} {d : Nat} {as : List Value} {w w1 w2 : va_W} {v : Option Value} (h : Mc l D ty z y cc nL ret d as w v w1) (hP : ∀ H, va_P D vwCl w1 H → va_P D vwCl w2 H) (hadr : w2.map Prod.fst = w1.map Prod.fst) : Mc l D ty z y cc nL ret d as w v w2 := by
  intro sz
  refine (h sz).conseq (fun _ _ h => h) ?_ (fun _ h => h)
  rintro a s o t - ⟨q1, ⟨q2, q3, q4⟩, q5⟩
  have q4' := va_D_nd.mp q4
  refine ⟨q1, ⟨hP _ q2, q3, va_D_nd.mpr ⟨by rw [hadr]; exact q4'.1, fun q hq => ?_⟩⟩, q5⟩
  have : q.1 ∈ w1.map Prod.fst := by rw [← hadr]; exact List.mem_map.mpr ⟨q, hq, rfl⟩
  obtain ⟨q', h1, h2⟩ := List.mem_map.mp this
  rw [← h2]
  exact q4'.2 q' h1
theorem wT_congr {D : va_G} {cI : ClassId} {tA tC n : Nat} {w sz : Int32} {f g : Nat → Int32} (h : ∀ j, j < n → f j = g j) (H : Heap) (hP : va_P D vwCl (wT cI tA tC w n (sz, f)) H) : va_P D vwCl (wT cI tA tC w n (sz, g)) H := by
  refine va_P_mem.mpr fun q hq => ?_
  have h' := va_P_mem.mp hP
  rcases List.mem_cons.mp hq with rfl | hq
  · exact h' _ List.mem_cons_self
  · obtain rfl := List.mem_singleton.mp hq
    have h2 := h' (tC, .inl (cI, n, .inl f)) (List.mem_cons_of_mem _ List.mem_cons_self)
    show H[tC]? = some (vp_cell cI (n, .inl g))
    rw [vp_cell_i, ← arrV_congr (fun j hj => congrArg Value.int (h j hj)), ← vp_cell_i]
    exact h2
theorem va_P_app {D : va_G} {a b : va_W} {H : Heap} : va_P D vwCl (a ++ b) H ↔ va_P D vwCl a H ∧ va_P D vwCl b H := by
  constructor
  · intro h
    exact ⟨va_P_mem.mpr fun q hq => va_P_mem.mp h q (List.mem_append_left _ hq), va_P_mem.mpr fun q hq => va_P_mem.mp h q (List.mem_append_right _ hq)⟩
  · rintro ⟨h1, h2⟩
    exact va_P_mem.mpr fun q hq => (List.mem_append.mp hq).elim (va_P_mem.mp h1 q) (va_P_mem.mp h2 q)
abbrev StS : Type := (Nat → Tb) × (Nat → Int32)
def tw : Nat → Nat := fun k => [12, 14, 3, 1, 1, 7, 6, 6, 1, 1, 4].getD k 1
def tr : Nat → Nat := fun k => [6, 6, 6, 4, 3, 16, 16, 4, 16, 4, 64].getD k 1
theorem tw_pos : ∀ k, k < 11 → 0 < tw k := by decide
theorem tw_le : ∀ k, k < 11 → tw k ≤ 14 := by decide
theorem tr_le : ∀ k, k < 11 → tr k ≤ 64 := by decide
def tbl (cI : ClassId) (aS : Nat → Nat) (k : Nat) (T : Tb) : va_W := wB cI (aS (2 * k + 1)) (aS (2 * k + 2)) (tw k) (tr k) T
def wS (cI : ClassId) (aS : Nat → Nat) (S : StS) : va_W := [(aS 0, .inr (0, [.ref (aS 1), .ref (aS 3), .ref (aS 5), .ref (aS 7), .ref (aS 9), .ref (aS 11), .ref (aS 13), .ref (aS 15), .ref (aS 17), .ref (aS 19), .ref (aS 21), .int (S.2 11), .int (S.2 12), .int (S.2 13), .int (S.2 14), .int (S.2 15), .int (S.2 16), .int (S.2 17)]))] ++ (tbl cI aS 0 (S.1 0) ++ (tbl cI aS 1 (S.1 1) ++ (tbl cI aS 2 (S.1 2) ++ (tbl cI aS 3 (S.1 3) ++ (tbl cI aS 4 (S.1 4) ++ (tbl cI aS 5 (S.1 5) ++ (tbl cI aS 6 (S.1 6) ++ (tbl cI aS 7 (S.1 7) ++ (tbl cI aS 8 (S.1 8) ++ (tbl cI aS 9 (S.1 9) ++ (tbl cI aS 10 (S.1 10))))))))))))
def sset (S : StS) (k : Nat) (T : Tb) : StS := (va_up S.1 k T, S.2)
theorem wS_split (cI : ClassId) (aS : Nat → Nat) (S : StS) (k : Nat) (hk : k < 11) : ∃ pre post : va_W, wS cI aS S = pre ++ (tbl cI aS k (S.1 k) ++ post) ∧ ∀ T, wS cI aS (sset S k T) = pre ++ (tbl cI aS k T ++ post) := by
  match k, hk with
  | 0, _ => exact ⟨[(aS 0, .inr (0, [.ref (aS 1), .ref (aS 3), .ref (aS 5), .ref (aS 7), .ref (aS 9), .ref (aS 11), .ref (aS 13), .ref (aS 15), .ref (aS 17), .ref (aS 19), .ref (aS 21), .int (S.2 11), .int (S.2 12), .int (S.2 13), .int (S.2 14), .int (S.2 15), .int (S.2 16), .int (S.2 17)]))], tbl cI aS 1 (S.1 1) ++ (tbl cI aS 2 (S.1 2) ++ (tbl cI aS 3 (S.1 3) ++ (tbl cI aS 4 (S.1 4) ++ (tbl cI aS 5 (S.1 5) ++ (tbl cI aS 6 (S.1 6) ++ (tbl cI aS 7 (S.1 7) ++ (tbl cI aS 8 (S.1 8) ++ (tbl cI aS 9 (S.1 9) ++ (tbl cI aS 10 (S.1 10)))))))))), rfl, fun _ => rfl⟩
  | 1, _ => exact ⟨[(aS 0, .inr (0, [.ref (aS 1), .ref (aS 3), .ref (aS 5), .ref (aS 7), .ref (aS 9), .ref (aS 11), .ref (aS 13), .ref (aS 15), .ref (aS 17), .ref (aS 19), .ref (aS 21), .int (S.2 11), .int (S.2 12), .int (S.2 13), .int (S.2 14), .int (S.2 15), .int (S.2 16), .int (S.2 17)]))] ++ (tbl cI aS 0 (S.1 0)), tbl cI aS 2 (S.1 2) ++ (tbl cI aS 3 (S.1 3) ++ (tbl cI aS 4 (S.1 4) ++ (tbl cI aS 5 (S.1 5) ++ (tbl cI aS 6 (S.1 6) ++ (tbl cI aS 7 (S.1 7) ++ (tbl cI aS 8 (S.1 8) ++ (tbl cI aS 9 (S.1 9) ++ (tbl cI aS 10 (S.1 10))))))))), rfl, fun _ => rfl⟩
  | 2, _ => exact ⟨[(aS 0, .inr (0, [.ref (aS 1), .ref (aS 3), .ref (aS 5), .ref (aS 7), .ref (aS 9), .ref (aS 11), .ref (aS 13), .ref (aS 15), .ref (aS 17), .ref (aS 19), .ref (aS 21), .int (S.2 11), .int (S.2 12), .int (S.2 13), .int (S.2 14), .int (S.2 15), .int (S.2 16), .int (S.2 17)]))] ++ (tbl cI aS 0 (S.1 0) ++ (tbl cI aS 1 (S.1 1))), tbl cI aS 3 (S.1 3) ++ (tbl cI aS 4 (S.1 4) ++ (tbl cI aS 5 (S.1 5) ++ (tbl cI aS 6 (S.1 6) ++ (tbl cI aS 7 (S.1 7) ++ (tbl cI aS 8 (S.1 8) ++ (tbl cI aS 9 (S.1 9) ++ (tbl cI aS 10 (S.1 10)))))))), rfl, fun _ => rfl⟩
  | 3, _ => exact ⟨[(aS 0, .inr (0, [.ref (aS 1), .ref (aS 3), .ref (aS 5), .ref (aS 7), .ref (aS 9), .ref (aS 11), .ref (aS 13), .ref (aS 15), .ref (aS 17), .ref (aS 19), .ref (aS 21), .int (S.2 11), .int (S.2 12), .int (S.2 13), .int (S.2 14), .int (S.2 15), .int (S.2 16), .int (S.2 17)]))] ++ (tbl cI aS 0 (S.1 0) ++ (tbl cI aS 1 (S.1 1) ++ (tbl cI aS 2 (S.1 2)))), tbl cI aS 4 (S.1 4) ++ (tbl cI aS 5 (S.1 5) ++ (tbl cI aS 6 (S.1 6) ++ (tbl cI aS 7 (S.1 7) ++ (tbl cI aS 8 (S.1 8) ++ (tbl cI aS 9 (S.1 9) ++ (tbl cI aS 10 (S.1 10))))))), rfl, fun _ => rfl⟩
  | 4, _ => exact ⟨[(aS 0, .inr (0, [.ref (aS 1), .ref (aS 3), .ref (aS 5), .ref (aS 7), .ref (aS 9), .ref (aS 11), .ref (aS 13), .ref (aS 15), .ref (aS 17), .ref (aS 19), .ref (aS 21), .int (S.2 11), .int (S.2 12), .int (S.2 13), .int (S.2 14), .int (S.2 15), .int (S.2 16), .int (S.2 17)]))] ++ (tbl cI aS 0 (S.1 0) ++ (tbl cI aS 1 (S.1 1) ++ (tbl cI aS 2 (S.1 2) ++ (tbl cI aS 3 (S.1 3))))), tbl cI aS 5 (S.1 5) ++ (tbl cI aS 6 (S.1 6) ++ (tbl cI aS 7 (S.1 7) ++ (tbl cI aS 8 (S.1 8) ++ (tbl cI aS 9 (S.1 9) ++ (tbl cI aS 10 (S.1 10)))))), rfl, fun _ => rfl⟩
  | 5, _ => exact ⟨[(aS 0, .inr (0, [.ref (aS 1), .ref (aS 3), .ref (aS 5), .ref (aS 7), .ref (aS 9), .ref (aS 11), .ref (aS 13), .ref (aS 15), .ref (aS 17), .ref (aS 19), .ref (aS 21), .int (S.2 11), .int (S.2 12), .int (S.2 13), .int (S.2 14), .int (S.2 15), .int (S.2 16), .int (S.2 17)]))] ++ (tbl cI aS 0 (S.1 0) ++ (tbl cI aS 1 (S.1 1) ++ (tbl cI aS 2 (S.1 2) ++ (tbl cI aS 3 (S.1 3) ++ (tbl cI aS 4 (S.1 4)))))), tbl cI aS 6 (S.1 6) ++ (tbl cI aS 7 (S.1 7) ++ (tbl cI aS 8 (S.1 8) ++ (tbl cI aS 9 (S.1 9) ++ (tbl cI aS 10 (S.1 10))))), rfl, fun _ => rfl⟩
  | 6, _ => exact ⟨[(aS 0, .inr (0, [.ref (aS 1), .ref (aS 3), .ref (aS 5), .ref (aS 7), .ref (aS 9), .ref (aS 11), .ref (aS 13), .ref (aS 15), .ref (aS 17), .ref (aS 19), .ref (aS 21), .int (S.2 11), .int (S.2 12), .int (S.2 13), .int (S.2 14), .int (S.2 15), .int (S.2 16), .int (S.2 17)]))] ++ (tbl cI aS 0 (S.1 0) ++ (tbl cI aS 1 (S.1 1) ++ (tbl cI aS 2 (S.1 2) ++ (tbl cI aS 3 (S.1 3) ++ (tbl cI aS 4 (S.1 4) ++ (tbl cI aS 5 (S.1 5))))))), tbl cI aS 7 (S.1 7) ++ (tbl cI aS 8 (S.1 8) ++ (tbl cI aS 9 (S.1 9) ++ (tbl cI aS 10 (S.1 10)))), rfl, fun _ => rfl⟩
  | 7, _ => exact ⟨[(aS 0, .inr (0, [.ref (aS 1), .ref (aS 3), .ref (aS 5), .ref (aS 7), .ref (aS 9), .ref (aS 11), .ref (aS 13), .ref (aS 15), .ref (aS 17), .ref (aS 19), .ref (aS 21), .int (S.2 11), .int (S.2 12), .int (S.2 13), .int (S.2 14), .int (S.2 15), .int (S.2 16), .int (S.2 17)]))] ++ (tbl cI aS 0 (S.1 0) ++ (tbl cI aS 1 (S.1 1) ++ (tbl cI aS 2 (S.1 2) ++ (tbl cI aS 3 (S.1 3) ++ (tbl cI aS 4 (S.1 4) ++ (tbl cI aS 5 (S.1 5) ++ (tbl cI aS 6 (S.1 6)))))))), tbl cI aS 8 (S.1 8) ++ (tbl cI aS 9 (S.1 9) ++ (tbl cI aS 10 (S.1 10))), rfl, fun _ => rfl⟩
  | 8, _ => exact ⟨[(aS 0, .inr (0, [.ref (aS 1), .ref (aS 3), .ref (aS 5), .ref (aS 7), .ref (aS 9), .ref (aS 11), .ref (aS 13), .ref (aS 15), .ref (aS 17), .ref (aS 19), .ref (aS 21), .int (S.2 11), .int (S.2 12), .int (S.2 13), .int (S.2 14), .int (S.2 15), .int (S.2 16), .int (S.2 17)]))] ++ (tbl cI aS 0 (S.1 0) ++ (tbl cI aS 1 (S.1 1) ++ (tbl cI aS 2 (S.1 2) ++ (tbl cI aS 3 (S.1 3) ++ (tbl cI aS 4 (S.1 4) ++ (tbl cI aS 5 (S.1 5) ++ (tbl cI aS 6 (S.1 6) ++ (tbl cI aS 7 (S.1 7))))))))), tbl cI aS 9 (S.1 9) ++ (tbl cI aS 10 (S.1 10)), rfl, fun _ => rfl⟩
  | 9, _ => exact ⟨[(aS 0, .inr (0, [.ref (aS 1), .ref (aS 3), .ref (aS 5), .ref (aS 7), .ref (aS 9), .ref (aS 11), .ref (aS 13), .ref (aS 15), .ref (aS 17), .ref (aS 19), .ref (aS 21), .int (S.2 11), .int (S.2 12), .int (S.2 13), .int (S.2 14), .int (S.2 15), .int (S.2 16), .int (S.2 17)]))] ++ (tbl cI aS 0 (S.1 0) ++ (tbl cI aS 1 (S.1 1) ++ (tbl cI aS 2 (S.1 2) ++ (tbl cI aS 3 (S.1 3) ++ (tbl cI aS 4 (S.1 4) ++ (tbl cI aS 5 (S.1 5) ++ (tbl cI aS 6 (S.1 6) ++ (tbl cI aS 7 (S.1 7) ++ (tbl cI aS 8 (S.1 8)))))))))), tbl cI aS 10 (S.1 10), rfl, fun _ => rfl⟩
  | 10, _ => exact ⟨[(aS 0, .inr (0, [.ref (aS 1), .ref (aS 3), .ref (aS 5), .ref (aS 7), .ref (aS 9), .ref (aS 11), .ref (aS 13), .ref (aS 15), .ref (aS 17), .ref (aS 19), .ref (aS 21), .int (S.2 11), .int (S.2 12), .int (S.2 13), .int (S.2 14), .int (S.2 15), .int (S.2 16), .int (S.2 17)]))] ++ (tbl cI aS 0 (S.1 0) ++ (tbl cI aS 1 (S.1 1) ++ (tbl cI aS 2 (S.1 2) ++ (tbl cI aS 3 (S.1 3) ++ (tbl cI aS 4 (S.1 4) ++ (tbl cI aS 5 (S.1 5) ++ (tbl cI aS 6 (S.1 6) ++ (tbl cI aS 7 (S.1 7) ++ (tbl cI aS 8 (S.1 8) ++ (tbl cI aS 9 (S.1 9))))))))))), [], rfl, fun _ => rfl⟩
  | k + 11, h => exact absurd h (by omega)
def ssize (k : Nat) (S : StS) : Int32 := nI (tz (tr k) (S.1 k))
def sget (k : Nat) (S : StS) (r c : Int32) : Int32 := tget (tw k) (tr k) (S.1 k) r c
def sput (k : Nat) (S : StS) (r c v : Int32) : StS := sset S k (tput (tw k) (tr k) (S.1 k) r c v)
def sadd (k : Nat) (S : StS) (r c v : Int32) : StS := sset S k (tadd (tw k) (tr k) (S.1 k) r c v)
def sfind (k : Nat) (S : StS) (c v : Int32) : Int32 := tfind (tw k) (tr k) (S.1 k) c v
def srows (k : Nat) (S : StS) (c v : Int32) : Int32 := trows (tw k) (tr k) (S.1 k) c v
def ssum (k : Nat) (S : StS) (c : Int32) : Int32 := tsum (tw k) (tr k) (S.1 k) c
def sappend (k : Nat) (S : StS) : Int32 × StS := ((tappend (tr k) (S.1 k)).1, sset S k (tappend (tr k) (S.1 k)).2)
def sdrop (k : Nat) (S : StS) (r : Int32) : StS := sset S k (tdrop (tr k) (S.1 k) r)
def scopyRow (S : StS) (r r2 : Int32) : StS := sset S 7 (tcopyRow 6 4 16 (S.1 7) (S.1 6) r r2)
theorem kS_size (l : Launch) (D : va_G) (cI cS : ClassId) (aS : Nat → Nat) (S : StS) (k : Nat) (hk : k < 11)  : Mc l D (tyL cI cS) false yX3_size cX3_size 1 (some .int) 1 [.ref (aS (2 * k + 1))] (wS cI aS S) (some (.int (ssize k S))) (wS cI aS S) := by
  obtain ⟨pre, post, e1, e2⟩ := wS_split cI aS S k hk
  rw [e1]
  exact (kX3_size l D cI cS (aS (2 * k + 1)) (aS (2 * k + 2)) (nI (tw k)) (tr k * tw k)  (tv (tw k) (tr k) (S.1 k)) (rfl)).mid rfl pre post
theorem kS_get (l : Launch) (D : va_G) (cI cS : ClassId) (aS : Nat → Nat) (S : StS) (k : Nat) (hk : k < 11) (r c : Int32) : Mc l D (tyL cI cS) false yX3_get cX3_get 4 (some .int) 1 [.ref (aS (2 * k + 1)), .int r, .int c] (wS cI aS S) (some (.int (sget k S r c))) (wS cI aS S) := by
  obtain ⟨pre, post, e1, e2⟩ := wS_split cI aS S k hk
  rw [e1]
  exact (kX3_get l D cI cS (aS (2 * k + 1)) (aS (2 * k + 2)) (nI (tw k)) (tr k * tw k) r c (tv (tw k) (tr k) (S.1 k)) (get_eq (tw_le k hk) (tr_le k hk) _ _ _)).mid rfl pre post
theorem kS_put (l : Launch) (D : va_G) (cI cS : ClassId) (aS : Nat → Nat) (S : StS) (k : Nat) (hk : k < 11) (r c v : Int32) : Mc l D (tyL cI cS) false yX3_put cX3_put 5 none 1 [.ref (aS (2 * k + 1)), .int r, .int c, .int v] (wS cI aS S) none (wS cI aS (sput k S r c v)) := by
  obtain ⟨pre, post, e1, e2⟩ := wS_split cI aS S k hk
  show Mc l D (tyL cI cS) false yX3_put cX3_put 5 none 1 [.ref (aS (2 * k + 1)), .int r, .int c, .int v] (wS cI aS S) none (wS cI aS (sset S k _))
  rw [e1, e2]
  exact (kX3_put l D cI cS (aS (2 * k + 1)) (aS (2 * k + 2)) (nI (tw k)) (tr k * tw k) r c v (tv (tw k) (tr k) (S.1 k)) (put_eq (tw_le k hk) (tr_le k hk) _ _ _ _)).mid rfl pre post
theorem kS_add (l : Launch) (D : va_G) (cI cS : ClassId) (aS : Nat → Nat) (S : StS) (k : Nat) (hk : k < 11) (r c v : Int32) : Mc l D (tyL cI cS) false yX3_add cX3_add 4 none 2 [.ref (aS (2 * k + 1)), .int r, .int c, .int v] (wS cI aS S) none (wS cI aS (sadd k S r c v)) := by
  obtain ⟨pre, post, e1, e2⟩ := wS_split cI aS S k hk
  show Mc l D (tyL cI cS) false yX3_add cX3_add 4 none 2 [.ref (aS (2 * k + 1)), .int r, .int c, .int v] (wS cI aS S) none (wS cI aS (sset S k _))
  rw [e1, e2]
  exact (kX3_add l D cI cS (aS (2 * k + 1)) (aS (2 * k + 2)) (nI (tw k)) (tr k * tw k) r c v (tv (tw k) (tr k) (S.1 k)) (add_eq (tw_le k hk) (tr_le k hk) _ _ _ _)).mid rfl pre post
theorem kS_find (l : Launch) (D : va_G) (cI cS : ClassId) (aS : Nat → Nat) (S : StS) (k : Nat) (hk : k < 11) (c v : Int32) : Mc l D (tyL cI cS) false yX3_find cX3_find 4 (some .int) 2 [.ref (aS (2 * k + 1)), .int c, .int v] (wS cI aS S) (some (.int (sfind k S c v))) (wS cI aS S) := by
  obtain ⟨pre, post, e1, e2⟩ := wS_split cI aS S k hk
  rw [e1]
  exact (kX3_find l D cI cS (aS (2 * k + 1)) (aS (2 * k + 2)) (nI (tw k)) (tr k * tw k) c v (tv (tw k) (tr k) (S.1 k)) (find_eq (tw_le k hk) (tr_le k hk) _ _ _)).mid rfl pre post
theorem kS_rowsWith (l : Launch) (D : va_G) (cI cS : ClassId) (aS : Nat → Nat) (S : StS) (k : Nat) (hk : k < 11) (c v : Int32) : Mc l D (tyL cI cS) false yX3_rowsWith cX3_rowsWith 5 (some .int) 2 [.ref (aS (2 * k + 1)), .int c, .int v] (wS cI aS S) (some (.int (srows k S c v))) (wS cI aS S) := by
  obtain ⟨pre, post, e1, e2⟩ := wS_split cI aS S k hk
  rw [e1]
  exact (kX3_rowsWith l D cI cS (aS (2 * k + 1)) (aS (2 * k + 2)) (nI (tw k)) (tr k * tw k) c v (tv (tw k) (tr k) (S.1 k)) (rows_eq (tw_le k hk) (tr_le k hk) _ _ _)).mid rfl pre post
theorem kS_sumOf (l : Launch) (D : va_G) (cI cS : ClassId) (aS : Nat → Nat) (S : StS) (k : Nat) (hk : k < 11) (c : Int32) : Mc l D (tyL cI cS) false yX3_sumOf cX3_sumOf 4 (some .int) 2 [.ref (aS (2 * k + 1)), .int c] (wS cI aS S) (some (.int (ssum k S c))) (wS cI aS S) := by
  obtain ⟨pre, post, e1, e2⟩ := wS_split cI aS S k hk
  rw [e1]
  exact (kX3_sumOf l D cI cS (aS (2 * k + 1)) (aS (2 * k + 2)) (nI (tw k)) (tr k * tw k) c (tv (tw k) (tr k) (S.1 k)) (sum_eq (tw_le k hk) (tr_le k hk) _ _)).mid rfl pre post
theorem kS_append (l : Launch) (D : va_G) (cI cS : ClassId) (aS : Nat → Nat) (S : StS) (k : Nat) (hk : k < 11)  : Mc l D (tyL cI cS) false yX3_append cX3_append 3 (some .int) 3 [.ref (aS (2 * k + 1))] (wS cI aS S) (some (.int (sappend k S).1)) (wS cI aS (sappend k S).2) := by
  obtain ⟨pre, post, e1, e2⟩ := wS_split cI aS S k hk
  show Mc l D (tyL cI cS) false yX3_append cX3_append 3 (some .int) 3 [.ref (aS (2 * k + 1))] (wS cI aS S) (some (.int (sappend k S).1)) (wS cI aS (sset S k _))
  rw [e1, e2]
  exact (kX3_append l D cI cS (aS (2 * k + 1)) (aS (2 * k + 2)) (nI (tw k)) (tr k * tw k)  (tv (tw k) (tr k) (S.1 k)) (append_eq (tw_pos k hk) (tw_le k hk) (tr_le k hk) _)).mid rfl pre post
theorem kS_drop (l : Launch) (D : va_G) (cI cS : ClassId) (aS : Nat → Nat) (S : StS) (k : Nat) (hk : k < 11) (r : Int32) : Mc l D (tyL cI cS) false yX3_drop cX3_drop 5 none 1 [.ref (aS (2 * k + 1)), .int r] (wS cI aS S) none (wS cI aS (sdrop k S r)) := by
  obtain ⟨pre, post, e1, e2⟩ := wS_split cI aS S k hk
  show Mc l D (tyL cI cS) false yX3_drop cX3_drop 5 none 1 [.ref (aS (2 * k + 1)), .int r] (wS cI aS S) none (wS cI aS (sset S k _))
  rw [e1, e2]
  exact (kX3_drop l D cI cS (aS (2 * k + 1)) (aS (2 * k + 2)) (nI (tw k)) (tr k * tw k) r (tv (tw k) (tr k) (S.1 k)) (drop_eq (tw_pos k hk) (tw_le k hk) (tr_le k hk) _ _)).mid rfl pre post
def sputAll (k : Nat) (S : StS) (c v : Int32) : StS := sset S k (tputAll (tw k) (tr k) (S.1 k) c v (tz (tr k) (S.1 k)))
theorem kS_putInAll (l : Launch) (D : va_G) (cI cS : ClassId) (aS : Nat → Nat) (S : StS) (k : Nat) (hk : k < 11) (c v : Int32) : Mc l D (tyL cI cS) false yX3_putInAll cX3_putInAll 4 none 2 [.ref (aS (2 * k + 1)), .int c, .int v] (wS cI aS S) none (wS cI aS (sputAll k S c v)) := by
  obtain ⟨pre, post, e1, e2⟩ := wS_split cI aS S k hk
  show Mc l D (tyL cI cS) false yX3_putInAll cX3_putInAll 4 none 2 [.ref (aS (2 * k + 1)), .int c, .int v] (wS cI aS S) none (wS cI aS (sset S k _))
  rw [e1, e2]
  exact (kX3_putInAll l D cI cS (aS (2 * k + 1)) (aS (2 * k + 2)) (nI (tw k)) (tr k * tw k) c v (tv (tw k) (tr k) (S.1 k)) (putAll_eq (tw_le k hk) (tr_le k hk) _ _ _)).mid rfl pre post
theorem kS_copyRow (l : Launch) (D : va_G) (cI cS : ClassId) (aS : Nat → Nat) (S : StS) (r r2 : Int32) : Mc l D (tyL cI cS) false yX3_copyRow cX3_copyRow 5 none 2 [.ref (aS 15), .int r, .ref (aS 13), .int r2] (wS cI aS S) none (wS cI aS (scopyRow S r r2)) := by
  have h := kX3_copyRow l D cI cS (aS 15) (aS 16) (aS 13) (aS 14) (nI 6) (4 * 6) (nI 6) (16 * 6) r r2 (tv 6 4 (S.1 7), tv 6 16 (S.1 6)) (copyRow_eq (by omega) (by omega) (by omega) (S.1 7) (S.1 6) r r2)
  have key : ∀ (T : Tb) (pre post : va_W), (pre ++ (tbl cI aS 6 (S.1 6) ++ (tbl cI aS 7 T ++ post))).Perm ((tbl cI aS 7 T ++ tbl cI aS 6 (S.1 6)) ++ (pre ++ post)) := fun T pre post => by
    refine (List.Perm.append_left pre (List.perm_append_comm_assoc _ _ _)).trans ?_
    refine (List.perm_append_comm_assoc _ _ _).trans ?_
    rw [List.append_assoc]
    refine List.Perm.append_left _ ?_
    exact List.perm_append_comm_assoc _ _ _
  refine Mc.frame (wc := tbl cI aS 7 (S.1 7) ++ tbl cI aS 6 (S.1 6)) (wc1 := tbl cI aS 7 (tcopyRow 6 4 16 (S.1 7) (S.1 6) r r2) ++ tbl cI aS 6 (S.1 6)) (fr := ([(aS 0, .inr (0, [.ref (aS 1), .ref (aS 3), .ref (aS 5), .ref (aS 7), .ref (aS 9), .ref (aS 11), .ref (aS 13), .ref (aS 15), .ref (aS 17), .ref (aS 19), .ref (aS 21), .int (S.2 11), .int (S.2 12), .int (S.2 13), .int (S.2 14), .int (S.2 15), .int (S.2 16), .int (S.2 17)]))] ++ (tbl cI aS 0 (S.1 0) ++ (tbl cI aS 1 (S.1 1) ++ (tbl cI aS 2 (S.1 2) ++ (tbl cI aS 3 (S.1 3) ++ (tbl cI aS 4 (S.1 4) ++ (tbl cI aS 5 (S.1 5)))))))) ++ (tbl cI aS 8 (S.1 8) ++ (tbl cI aS 9 (S.1 9) ++ (tbl cI aS 10 (S.1 10))))) h ?_ ?_ rfl
  · exact key (S.1 7) ([(aS 0, .inr (0, [.ref (aS 1), .ref (aS 3), .ref (aS 5), .ref (aS 7), .ref (aS 9), .ref (aS 11), .ref (aS 13), .ref (aS 15), .ref (aS 17), .ref (aS 19), .ref (aS 21), .int (S.2 11), .int (S.2 12), .int (S.2 13), .int (S.2 14), .int (S.2 15), .int (S.2 16), .int (S.2 17)]))] ++ (tbl cI aS 0 (S.1 0) ++ (tbl cI aS 1 (S.1 1) ++ (tbl cI aS 2 (S.1 2) ++ (tbl cI aS 3 (S.1 3) ++ (tbl cI aS 4 (S.1 4) ++ (tbl cI aS 5 (S.1 5)))))))) (tbl cI aS 8 (S.1 8) ++ (tbl cI aS 9 (S.1 9) ++ (tbl cI aS 10 (S.1 10))))
  · exact key (tcopyRow 6 4 16 (S.1 7) (S.1 6) r r2) ([(aS 0, .inr (0, [.ref (aS 1), .ref (aS 3), .ref (aS 5), .ref (aS 7), .ref (aS 9), .ref (aS 11), .ref (aS 13), .ref (aS 15), .ref (aS 17), .ref (aS 19), .ref (aS 21), .int (S.2 11), .int (S.2 12), .int (S.2 13), .int (S.2 14), .int (S.2 15), .int (S.2 16), .int (S.2 17)]))] ++ (tbl cI aS 0 (S.1 0) ++ (tbl cI aS 1 (S.1 1) ++ (tbl cI aS 2 (S.1 2) ++ (tbl cI aS 3 (S.1 3) ++ (tbl cI aS 4 (S.1 4) ++ (tbl cI aS 5 (S.1 5)))))))) (tbl cI aS 8 (S.1 8) ++ (tbl cI aS 9 (S.1 9) ++ (tbl cI aS 10 (S.1 10))))
/-- two States side by side -/
def wSS (cI : ClassId) (aS bS : Nat → Nat) (S : StS × StS) : va_W := wS cI aS S.1 ++ wS cI bS S.2
theorem kSS_copyFrom (l : Launch) (D : va_G) (cI cS : ClassId) (aS bS : Nat → Nat) (S : StS × StS) (k : Nat) (hk : k < 11) : Mc l D (tyL cI cS) false yX3_copyFrom cX3_copyFrom 2 none 2 [.ref (aS (2 * k + 1)), .ref (bS (2 * k + 1))] (wSS cI aS bS S) none (wSS cI aS bS (sset S.1 k (S.2.1 k), S.2)) := by
  have h := kX3_copyFrom l D cI cS (aS (2 * k + 1)) (aS (2 * k + 2)) (bS (2 * k + 1)) (bS (2 * k + 2)) (nI (tw k)) (tr k * tw k) (nI (tw k)) (tr k * tw k) (tv (tw k) (tr k) (S.1.1 k), tv (tw k) (tr k) (S.2.1 k)) (copyFrom_eq (tw_le k hk) (tr_le k hk) (S.1.1 k) (S.2.1 k))
  have h2 : Mc l D (tyL cI cS) false yX3_copyFrom cX3_copyFrom 2 none 2 [.ref (aS (2 * k + 1)), .ref (bS (2 * k + 1))] (tbl cI aS k (S.1.1 k) ++ tbl cI bS k (S.2.1 k)) none (tbl cI aS k (S.2.1 k) ++ tbl cI bS k (S.2.1 k)) := by
    refine h.post (fun H hP => ?_) rfl
    have hP := va_P_app.mp (show va_P D vwCl (wT cI (aS (2 * k + 1)) (aS (2 * k + 2)) (nI (tw k)) (tr k * tw k) (nI (tz (tr k) (S.2.1 k)), fun j => if j < tr k * tw k then tflat (tw k) (S.2.1 k).2 j else tflat (tw k) (S.1.1 k).2 j) ++ tbl cI bS k (S.2.1 k)) H from hP)
    exact va_P_app.mpr ⟨wT_congr (fun j hj => if_pos hj) H hP.1, hP.2⟩
  obtain ⟨pre, post, e1, e2⟩ := wS_split cI aS S.1 k hk
  obtain ⟨pre', post', e3, -⟩ := wS_split cI bS S.2 k hk
  have h3 := h2.mid2 rfl pre (post ++ pre') post'
  have e4 : wSS cI aS bS S = pre ++ (tbl cI aS k (S.1.1 k) ++ ((post ++ pre') ++ (tbl cI bS k (S.2.1 k) ++ post'))) := by
    unfold wSS
    rw [e1, e3]
    simp only [List.append_assoc]
  have e5 : wSS cI aS bS (sset S.1 k (S.2.1 k), S.2) = pre ++ (tbl cI aS k (S.2.1 k) ++ ((post ++ pre') ++ (tbl cI bS k (S.2.1 k) ++ post'))) := by
    unfold wSS
    rw [e2, e3]
    simp only [List.append_assoc]
  rw [e4, e5]
  exact h3
