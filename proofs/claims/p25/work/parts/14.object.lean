/-! the object: six States (state, trial, four recorded) with their addresses, and how many are recorded -/
abbrev RS : Type := (Nat → Nat → Nat) × (Nat → StS) × Int32
def stF (B : Nat → Nat) (S : StS) : List Value := [.ref (B 1), .ref (B 3), .ref (B 5), .ref (B 7), .ref (B 9), .ref (B 11), .ref (B 13), .ref (B 15), .ref (B 17), .ref (B 19), .ref (B 21), .int (S.2 11), .int (S.2 12), .int (S.2 13), .int (S.2 14), .int (S.2 15), .int (S.2 16), .int (S.2 17)]
def recG (X : RS) : Nat → Option Nat := fun j => some (X.1 (j + 2) 0)
/-- with any row of references, and any number, in the object's place -/
def wRg (cI cS : ClassId) (aR : Nat → Nat) (X : RS) (g : Nat → Option Nat) (r : Int32) : va_W := [(aR 0, .inr (2, [.ref (X.1 0 0), .ref (X.1 1 0), .ref (aR 1), .int r])), (aR 1, .inl (cS, 4, .inr (.inr (.inr (.inr g)))))] ++ (wS cI (X.1 0) (X.2.1 0) ++ (wS cI (X.1 1) (X.2.1 1) ++ (wS cI (X.1 2) (X.2.1 2) ++ (wS cI (X.1 3) (X.2.1 3) ++ (wS cI (X.1 4) (X.2.1 4) ++ (wS cI (X.1 5) (X.2.1 5)))))))
def wR (cI cS : ClassId) (aR : Nat → Nat) (X : RS) : va_W := wRg cI cS aR X (recG X) X.2.2
def rset (X : RS) (i : Nat) (S : StS) : RS := (X.1, va_up X.2.1 i S, X.2.2)
def rdrop (X : RS) : RS := (fun i => X.1 ([0, 1, 3, 4, 5, 2].getD i 0), fun i => X.2.1 ([0, 1, 3, 4, 5, 2].getD i 0), X.2.2 - 1)
theorem wR_split (cI cS : ClassId) (aR : Nat → Nat) (X : RS) (i : Nat) (hi : i < 6) : ∃ pre post : va_W, wR cI cS aR X = pre ++ (wS cI (X.1 i) (X.2.1 i) ++ post) ∧ ∀ S, wR cI cS aR (rset X i S) = pre ++ (wS cI (X.1 i) S ++ post) := by
  match i, hi with
  | 0, _ => exact ⟨[(aR 0, .inr (2, [.ref (X.1 0 0), .ref (X.1 1 0), .ref (aR 1), .int X.2.2])), (aR 1, .inl (cS, 4, .inr (.inr (.inr (.inr (recG X))))))], wS cI (X.1 1) (X.2.1 1) ++ (wS cI (X.1 2) (X.2.1 2) ++ (wS cI (X.1 3) (X.2.1 3) ++ (wS cI (X.1 4) (X.2.1 4) ++ (wS cI (X.1 5) (X.2.1 5))))), rfl, fun _ => rfl⟩
  | 1, _ => exact ⟨[(aR 0, .inr (2, [.ref (X.1 0 0), .ref (X.1 1 0), .ref (aR 1), .int X.2.2])), (aR 1, .inl (cS, 4, .inr (.inr (.inr (.inr (recG X))))))] ++ (wS cI (X.1 0) (X.2.1 0)), wS cI (X.1 2) (X.2.1 2) ++ (wS cI (X.1 3) (X.2.1 3) ++ (wS cI (X.1 4) (X.2.1 4) ++ (wS cI (X.1 5) (X.2.1 5)))), rfl, fun _ => rfl⟩
  | 2, _ => exact ⟨[(aR 0, .inr (2, [.ref (X.1 0 0), .ref (X.1 1 0), .ref (aR 1), .int X.2.2])), (aR 1, .inl (cS, 4, .inr (.inr (.inr (.inr (recG X))))))] ++ (wS cI (X.1 0) (X.2.1 0) ++ (wS cI (X.1 1) (X.2.1 1))), wS cI (X.1 3) (X.2.1 3) ++ (wS cI (X.1 4) (X.2.1 4) ++ (wS cI (X.1 5) (X.2.1 5))), rfl, fun _ => rfl⟩
  | 3, _ => exact ⟨[(aR 0, .inr (2, [.ref (X.1 0 0), .ref (X.1 1 0), .ref (aR 1), .int X.2.2])), (aR 1, .inl (cS, 4, .inr (.inr (.inr (.inr (recG X))))))] ++ (wS cI (X.1 0) (X.2.1 0) ++ (wS cI (X.1 1) (X.2.1 1) ++ (wS cI (X.1 2) (X.2.1 2)))), wS cI (X.1 4) (X.2.1 4) ++ (wS cI (X.1 5) (X.2.1 5)), rfl, fun _ => rfl⟩
  | 4, _ => exact ⟨[(aR 0, .inr (2, [.ref (X.1 0 0), .ref (X.1 1 0), .ref (aR 1), .int X.2.2])), (aR 1, .inl (cS, 4, .inr (.inr (.inr (.inr (recG X))))))] ++ (wS cI (X.1 0) (X.2.1 0) ++ (wS cI (X.1 1) (X.2.1 1) ++ (wS cI (X.1 2) (X.2.1 2) ++ (wS cI (X.1 3) (X.2.1 3))))), wS cI (X.1 5) (X.2.1 5), rfl, fun _ => rfl⟩
  | 5, _ => exact ⟨[(aR 0, .inr (2, [.ref (X.1 0 0), .ref (X.1 1 0), .ref (aR 1), .int X.2.2])), (aR 1, .inl (cS, 4, .inr (.inr (.inr (.inr (recG X))))))] ++ (wS cI (X.1 0) (X.2.1 0) ++ (wS cI (X.1 1) (X.2.1 1) ++ (wS cI (X.1 2) (X.2.1 2) ++ (wS cI (X.1 3) (X.2.1 3) ++ (wS cI (X.1 4) (X.2.1 4)))))), [], rfl, fun _ => rfl⟩
  | i + 6, h => exact absurd h (by omega)
theorem Mc.toR {l : Launch} {D : va_G} {ty : List (ClassId × FieldType)} {z : Bool} {y : MethodName} {cc : ByteArray} {nL : Nat} {ret : Option FieldType} {d : Nat} {as : List Value} {v : Option Value} {cI : ClassId} {X : RS} {i : Nat} {S : StS} (h : Mc l D ty z y cc nL ret d as (wS cI (X.1 i) (X.2.1 i)) v (wS cI (X.1 i) S)) (cS : ClassId) (aR : Nat → Nat) (hi : i < 6) : Mc l D ty z y cc nL ret d as (wR cI cS aR X) v (wR cI cS aR (rset X i S)) := by
  obtain ⟨pre, post, e1, e2⟩ := wR_split cI cS aR X i hi
  rw [e1, e2]
  exact h.mid rfl pre post
theorem Mc.toR0 {l : Launch} {D : va_G} {ty : List (ClassId × FieldType)} {z : Bool} {y : MethodName} {cc : ByteArray} {nL : Nat} {ret : Option FieldType} {d : Nat} {as : List Value} {v : Option Value} {cI : ClassId} {X : RS} {i : Nat} (h : Mc l D ty z y cc nL ret d as (wS cI (X.1 i) (X.2.1 i)) v (wS cI (X.1 i) (X.2.1 i))) (cS : ClassId) (aR : Nat → Nat) (hi : i < 6) : Mc l D ty z y cc nL ret d as (wR cI cS aR X) v (wR cI cS aR X) := by
  obtain ⟨pre, post, e1, e2⟩ := wR_split cI cS aR X i hi
  rw [e1]
  exact h.mid rfl pre post
theorem wR_recv (cI cS : ClassId) (aR : Nat → Nat) (X : RS) (i : Nat) (hi : i < 6) : (wR cI cS aR X)[2 + 23 * i]? = some (X.1 i 0, .inr (0, stF (X.1 i) (X.2.1 i))) := by
  match i, hi with
  | 0, _ => rfl
  | 1, _ => rfl
  | 2, _ => rfl
  | 3, _ => rfl
  | 4, _ => rfl
  | 5, _ => rfl
  | i + 6, h => exact absurd h (by omega)
/-- State.copyFrom: the two are alike behind it -/
theorem copyS_some (S : StS × StS) : ∃ q, fX2_copyFrom S = some q ∧ (∀ cI aS bS, wSS cI aS bS q = wSS cI aS bS (S.2, S.2)) := by
  refine ⟨_, rfl, fun cI aS bS => ?_⟩
  rfl
theorem kSS_copy (l : Launch) (D : va_G) (cI cS : ClassId) (aS bS : Nat → Nat) (S : StS × StS) : Mc l D (tyL cI cS) false yX2_copyFrom cX2_copyFrom 2 none 3 [.ref (aS 0), .ref (bS 0)] (wSS cI aS bS S) none (wSS cI aS bS (S.2, S.2)) := by
  obtain ⟨q, h1, h2⟩ := copyS_some S
  have h := kX2_copyFrom l D cI cS aS bS S h1
  rw [h2 cI aS bS] at h
  exact h
def hdR (cS : ClassId) (aR : Nat → Nat) (X : RS) : va_W := [(aR 0, .inr (2, [.ref (X.1 0 0), .ref (X.1 1 0), .ref (aR 1), .int X.2.2])), (aR 1, .inl (cS, 4, .inr (.inr (.inr (.inr (recG X))))))]
theorem flat6 (seg : Nat → va_W) : (([0, 1, 2, 3, 4, 5] : List Nat).map seg).flatten = seg 0 ++ (seg 1 ++ (seg 2 ++ (seg 3 ++ (seg 4 ++ seg 5)))) := by simp
theorem seg_perm {head : va_W} {seg : Nat → va_W} {i j : Nat} {rest : List Nat} {fr : va_W} (h : List.Perm [0, 1, 2, 3, 4, 5] (i :: j :: rest)) (hf : (rest.map seg).flatten = fr) : (head ++ (seg 0 ++ (seg 1 ++ (seg 2 ++ (seg 3 ++ (seg 4 ++ seg 5)))))).Perm ((seg i ++ seg j) ++ (head ++ fr)) := by
  subst hf
  rw [← flat6]
  have h1 : (([0, 1, 2, 3, 4, 5] : List Nat).map seg).flatten.Perm (seg i ++ (seg j ++ (rest.map seg).flatten)) := (h.map seg).flatten
  refine (List.Perm.append_left head h1).trans ?_
  rw [← List.append_assoc (seg i)]
  exact List.perm_append_comm_assoc _ _ _
theorem wR_two (cI cS : ClassId) (aR : Nat → Nat) (X : RS) (i j : Nat) (hi : i < 6) (hj : j < 6) (hij : i ≠ j) : ∃ fr, ∀ S, (wR cI cS aR (rset X i S)).Perm ((wS cI (X.1 i) S ++ wS cI (X.1 j) (X.2.1 j)) ++ fr) := by
  match i, hi, j, hj, hij with
  | 0, _, 0, _, h => exact absurd rfl h
  | 0, _, 1, _, _ => exact ⟨hdR cS aR X ++ (wS cI (X.1 2) (X.2.1 2) ++ (wS cI (X.1 3) (X.2.1 3) ++ (wS cI (X.1 4) (X.2.1 4) ++ (wS cI (X.1 5) (X.2.1 5))))), fun S => seg_perm (head := hdR cS aR X) (seg := fun m => wS cI (X.1 m) (va_up X.2.1 0 S m)) (i := 0) (j := 1) (rest := [2, 3, 4, 5]) (by decide) (by simp [va_up])⟩
  | 0, _, 2, _, _ => exact ⟨hdR cS aR X ++ (wS cI (X.1 1) (X.2.1 1) ++ (wS cI (X.1 3) (X.2.1 3) ++ (wS cI (X.1 4) (X.2.1 4) ++ (wS cI (X.1 5) (X.2.1 5))))), fun S => seg_perm (head := hdR cS aR X) (seg := fun m => wS cI (X.1 m) (va_up X.2.1 0 S m)) (i := 0) (j := 2) (rest := [1, 3, 4, 5]) (by decide) (by simp [va_up])⟩
  | 0, _, 3, _, _ => exact ⟨hdR cS aR X ++ (wS cI (X.1 1) (X.2.1 1) ++ (wS cI (X.1 2) (X.2.1 2) ++ (wS cI (X.1 4) (X.2.1 4) ++ (wS cI (X.1 5) (X.2.1 5))))), fun S => seg_perm (head := hdR cS aR X) (seg := fun m => wS cI (X.1 m) (va_up X.2.1 0 S m)) (i := 0) (j := 3) (rest := [1, 2, 4, 5]) (by decide) (by simp [va_up])⟩
  | 0, _, 4, _, _ => exact ⟨hdR cS aR X ++ (wS cI (X.1 1) (X.2.1 1) ++ (wS cI (X.1 2) (X.2.1 2) ++ (wS cI (X.1 3) (X.2.1 3) ++ (wS cI (X.1 5) (X.2.1 5))))), fun S => seg_perm (head := hdR cS aR X) (seg := fun m => wS cI (X.1 m) (va_up X.2.1 0 S m)) (i := 0) (j := 4) (rest := [1, 2, 3, 5]) (by decide) (by simp [va_up])⟩
  | 0, _, 5, _, _ => exact ⟨hdR cS aR X ++ (wS cI (X.1 1) (X.2.1 1) ++ (wS cI (X.1 2) (X.2.1 2) ++ (wS cI (X.1 3) (X.2.1 3) ++ (wS cI (X.1 4) (X.2.1 4))))), fun S => seg_perm (head := hdR cS aR X) (seg := fun m => wS cI (X.1 m) (va_up X.2.1 0 S m)) (i := 0) (j := 5) (rest := [1, 2, 3, 4]) (by decide) (by simp [va_up])⟩
  | 1, _, 0, _, _ => exact ⟨hdR cS aR X ++ (wS cI (X.1 2) (X.2.1 2) ++ (wS cI (X.1 3) (X.2.1 3) ++ (wS cI (X.1 4) (X.2.1 4) ++ (wS cI (X.1 5) (X.2.1 5))))), fun S => seg_perm (head := hdR cS aR X) (seg := fun m => wS cI (X.1 m) (va_up X.2.1 1 S m)) (i := 1) (j := 0) (rest := [2, 3, 4, 5]) (by decide) (by simp [va_up])⟩
  | 1, _, 1, _, h => exact absurd rfl h
  | 1, _, 2, _, _ => exact ⟨hdR cS aR X ++ (wS cI (X.1 0) (X.2.1 0) ++ (wS cI (X.1 3) (X.2.1 3) ++ (wS cI (X.1 4) (X.2.1 4) ++ (wS cI (X.1 5) (X.2.1 5))))), fun S => seg_perm (head := hdR cS aR X) (seg := fun m => wS cI (X.1 m) (va_up X.2.1 1 S m)) (i := 1) (j := 2) (rest := [0, 3, 4, 5]) (by decide) (by simp [va_up])⟩
  | 1, _, 3, _, _ => exact ⟨hdR cS aR X ++ (wS cI (X.1 0) (X.2.1 0) ++ (wS cI (X.1 2) (X.2.1 2) ++ (wS cI (X.1 4) (X.2.1 4) ++ (wS cI (X.1 5) (X.2.1 5))))), fun S => seg_perm (head := hdR cS aR X) (seg := fun m => wS cI (X.1 m) (va_up X.2.1 1 S m)) (i := 1) (j := 3) (rest := [0, 2, 4, 5]) (by decide) (by simp [va_up])⟩
  | 1, _, 4, _, _ => exact ⟨hdR cS aR X ++ (wS cI (X.1 0) (X.2.1 0) ++ (wS cI (X.1 2) (X.2.1 2) ++ (wS cI (X.1 3) (X.2.1 3) ++ (wS cI (X.1 5) (X.2.1 5))))), fun S => seg_perm (head := hdR cS aR X) (seg := fun m => wS cI (X.1 m) (va_up X.2.1 1 S m)) (i := 1) (j := 4) (rest := [0, 2, 3, 5]) (by decide) (by simp [va_up])⟩
  | 1, _, 5, _, _ => exact ⟨hdR cS aR X ++ (wS cI (X.1 0) (X.2.1 0) ++ (wS cI (X.1 2) (X.2.1 2) ++ (wS cI (X.1 3) (X.2.1 3) ++ (wS cI (X.1 4) (X.2.1 4))))), fun S => seg_perm (head := hdR cS aR X) (seg := fun m => wS cI (X.1 m) (va_up X.2.1 1 S m)) (i := 1) (j := 5) (rest := [0, 2, 3, 4]) (by decide) (by simp [va_up])⟩
  | 2, _, 0, _, _ => exact ⟨hdR cS aR X ++ (wS cI (X.1 1) (X.2.1 1) ++ (wS cI (X.1 3) (X.2.1 3) ++ (wS cI (X.1 4) (X.2.1 4) ++ (wS cI (X.1 5) (X.2.1 5))))), fun S => seg_perm (head := hdR cS aR X) (seg := fun m => wS cI (X.1 m) (va_up X.2.1 2 S m)) (i := 2) (j := 0) (rest := [1, 3, 4, 5]) (by decide) (by simp [va_up])⟩
  | 2, _, 1, _, _ => exact ⟨hdR cS aR X ++ (wS cI (X.1 0) (X.2.1 0) ++ (wS cI (X.1 3) (X.2.1 3) ++ (wS cI (X.1 4) (X.2.1 4) ++ (wS cI (X.1 5) (X.2.1 5))))), fun S => seg_perm (head := hdR cS aR X) (seg := fun m => wS cI (X.1 m) (va_up X.2.1 2 S m)) (i := 2) (j := 1) (rest := [0, 3, 4, 5]) (by decide) (by simp [va_up])⟩
  | 2, _, 2, _, h => exact absurd rfl h
  | 2, _, 3, _, _ => exact ⟨hdR cS aR X ++ (wS cI (X.1 0) (X.2.1 0) ++ (wS cI (X.1 1) (X.2.1 1) ++ (wS cI (X.1 4) (X.2.1 4) ++ (wS cI (X.1 5) (X.2.1 5))))), fun S => seg_perm (head := hdR cS aR X) (seg := fun m => wS cI (X.1 m) (va_up X.2.1 2 S m)) (i := 2) (j := 3) (rest := [0, 1, 4, 5]) (by decide) (by simp [va_up])⟩
  | 2, _, 4, _, _ => exact ⟨hdR cS aR X ++ (wS cI (X.1 0) (X.2.1 0) ++ (wS cI (X.1 1) (X.2.1 1) ++ (wS cI (X.1 3) (X.2.1 3) ++ (wS cI (X.1 5) (X.2.1 5))))), fun S => seg_perm (head := hdR cS aR X) (seg := fun m => wS cI (X.1 m) (va_up X.2.1 2 S m)) (i := 2) (j := 4) (rest := [0, 1, 3, 5]) (by decide) (by simp [va_up])⟩
  | 2, _, 5, _, _ => exact ⟨hdR cS aR X ++ (wS cI (X.1 0) (X.2.1 0) ++ (wS cI (X.1 1) (X.2.1 1) ++ (wS cI (X.1 3) (X.2.1 3) ++ (wS cI (X.1 4) (X.2.1 4))))), fun S => seg_perm (head := hdR cS aR X) (seg := fun m => wS cI (X.1 m) (va_up X.2.1 2 S m)) (i := 2) (j := 5) (rest := [0, 1, 3, 4]) (by decide) (by simp [va_up])⟩
  | 3, _, 0, _, _ => exact ⟨hdR cS aR X ++ (wS cI (X.1 1) (X.2.1 1) ++ (wS cI (X.1 2) (X.2.1 2) ++ (wS cI (X.1 4) (X.2.1 4) ++ (wS cI (X.1 5) (X.2.1 5))))), fun S => seg_perm (head := hdR cS aR X) (seg := fun m => wS cI (X.1 m) (va_up X.2.1 3 S m)) (i := 3) (j := 0) (rest := [1, 2, 4, 5]) (by decide) (by simp [va_up])⟩
  | 3, _, 1, _, _ => exact ⟨hdR cS aR X ++ (wS cI (X.1 0) (X.2.1 0) ++ (wS cI (X.1 2) (X.2.1 2) ++ (wS cI (X.1 4) (X.2.1 4) ++ (wS cI (X.1 5) (X.2.1 5))))), fun S => seg_perm (head := hdR cS aR X) (seg := fun m => wS cI (X.1 m) (va_up X.2.1 3 S m)) (i := 3) (j := 1) (rest := [0, 2, 4, 5]) (by decide) (by simp [va_up])⟩
  | 3, _, 2, _, _ => exact ⟨hdR cS aR X ++ (wS cI (X.1 0) (X.2.1 0) ++ (wS cI (X.1 1) (X.2.1 1) ++ (wS cI (X.1 4) (X.2.1 4) ++ (wS cI (X.1 5) (X.2.1 5))))), fun S => seg_perm (head := hdR cS aR X) (seg := fun m => wS cI (X.1 m) (va_up X.2.1 3 S m)) (i := 3) (j := 2) (rest := [0, 1, 4, 5]) (by decide) (by simp [va_up])⟩
  | 3, _, 3, _, h => exact absurd rfl h
  | 3, _, 4, _, _ => exact ⟨hdR cS aR X ++ (wS cI (X.1 0) (X.2.1 0) ++ (wS cI (X.1 1) (X.2.1 1) ++ (wS cI (X.1 2) (X.2.1 2) ++ (wS cI (X.1 5) (X.2.1 5))))), fun S => seg_perm (head := hdR cS aR X) (seg := fun m => wS cI (X.1 m) (va_up X.2.1 3 S m)) (i := 3) (j := 4) (rest := [0, 1, 2, 5]) (by decide) (by simp [va_up])⟩
  | 3, _, 5, _, _ => exact ⟨hdR cS aR X ++ (wS cI (X.1 0) (X.2.1 0) ++ (wS cI (X.1 1) (X.2.1 1) ++ (wS cI (X.1 2) (X.2.1 2) ++ (wS cI (X.1 4) (X.2.1 4))))), fun S => seg_perm (head := hdR cS aR X) (seg := fun m => wS cI (X.1 m) (va_up X.2.1 3 S m)) (i := 3) (j := 5) (rest := [0, 1, 2, 4]) (by decide) (by simp [va_up])⟩
  | 4, _, 0, _, _ => exact ⟨hdR cS aR X ++ (wS cI (X.1 1) (X.2.1 1) ++ (wS cI (X.1 2) (X.2.1 2) ++ (wS cI (X.1 3) (X.2.1 3) ++ (wS cI (X.1 5) (X.2.1 5))))), fun S => seg_perm (head := hdR cS aR X) (seg := fun m => wS cI (X.1 m) (va_up X.2.1 4 S m)) (i := 4) (j := 0) (rest := [1, 2, 3, 5]) (by decide) (by simp [va_up])⟩
  | 4, _, 1, _, _ => exact ⟨hdR cS aR X ++ (wS cI (X.1 0) (X.2.1 0) ++ (wS cI (X.1 2) (X.2.1 2) ++ (wS cI (X.1 3) (X.2.1 3) ++ (wS cI (X.1 5) (X.2.1 5))))), fun S => seg_perm (head := hdR cS aR X) (seg := fun m => wS cI (X.1 m) (va_up X.2.1 4 S m)) (i := 4) (j := 1) (rest := [0, 2, 3, 5]) (by decide) (by simp [va_up])⟩
  | 4, _, 2, _, _ => exact ⟨hdR cS aR X ++ (wS cI (X.1 0) (X.2.1 0) ++ (wS cI (X.1 1) (X.2.1 1) ++ (wS cI (X.1 3) (X.2.1 3) ++ (wS cI (X.1 5) (X.2.1 5))))), fun S => seg_perm (head := hdR cS aR X) (seg := fun m => wS cI (X.1 m) (va_up X.2.1 4 S m)) (i := 4) (j := 2) (rest := [0, 1, 3, 5]) (by decide) (by simp [va_up])⟩
  | 4, _, 3, _, _ => exact ⟨hdR cS aR X ++ (wS cI (X.1 0) (X.2.1 0) ++ (wS cI (X.1 1) (X.2.1 1) ++ (wS cI (X.1 2) (X.2.1 2) ++ (wS cI (X.1 5) (X.2.1 5))))), fun S => seg_perm (head := hdR cS aR X) (seg := fun m => wS cI (X.1 m) (va_up X.2.1 4 S m)) (i := 4) (j := 3) (rest := [0, 1, 2, 5]) (by decide) (by simp [va_up])⟩
  | 4, _, 4, _, h => exact absurd rfl h
  | 4, _, 5, _, _ => exact ⟨hdR cS aR X ++ (wS cI (X.1 0) (X.2.1 0) ++ (wS cI (X.1 1) (X.2.1 1) ++ (wS cI (X.1 2) (X.2.1 2) ++ (wS cI (X.1 3) (X.2.1 3))))), fun S => seg_perm (head := hdR cS aR X) (seg := fun m => wS cI (X.1 m) (va_up X.2.1 4 S m)) (i := 4) (j := 5) (rest := [0, 1, 2, 3]) (by decide) (by simp [va_up])⟩
  | 5, _, 0, _, _ => exact ⟨hdR cS aR X ++ (wS cI (X.1 1) (X.2.1 1) ++ (wS cI (X.1 2) (X.2.1 2) ++ (wS cI (X.1 3) (X.2.1 3) ++ (wS cI (X.1 4) (X.2.1 4))))), fun S => seg_perm (head := hdR cS aR X) (seg := fun m => wS cI (X.1 m) (va_up X.2.1 5 S m)) (i := 5) (j := 0) (rest := [1, 2, 3, 4]) (by decide) (by simp [va_up])⟩
  | 5, _, 1, _, _ => exact ⟨hdR cS aR X ++ (wS cI (X.1 0) (X.2.1 0) ++ (wS cI (X.1 2) (X.2.1 2) ++ (wS cI (X.1 3) (X.2.1 3) ++ (wS cI (X.1 4) (X.2.1 4))))), fun S => seg_perm (head := hdR cS aR X) (seg := fun m => wS cI (X.1 m) (va_up X.2.1 5 S m)) (i := 5) (j := 1) (rest := [0, 2, 3, 4]) (by decide) (by simp [va_up])⟩
  | 5, _, 2, _, _ => exact ⟨hdR cS aR X ++ (wS cI (X.1 0) (X.2.1 0) ++ (wS cI (X.1 1) (X.2.1 1) ++ (wS cI (X.1 3) (X.2.1 3) ++ (wS cI (X.1 4) (X.2.1 4))))), fun S => seg_perm (head := hdR cS aR X) (seg := fun m => wS cI (X.1 m) (va_up X.2.1 5 S m)) (i := 5) (j := 2) (rest := [0, 1, 3, 4]) (by decide) (by simp [va_up])⟩
  | 5, _, 3, _, _ => exact ⟨hdR cS aR X ++ (wS cI (X.1 0) (X.2.1 0) ++ (wS cI (X.1 1) (X.2.1 1) ++ (wS cI (X.1 2) (X.2.1 2) ++ (wS cI (X.1 4) (X.2.1 4))))), fun S => seg_perm (head := hdR cS aR X) (seg := fun m => wS cI (X.1 m) (va_up X.2.1 5 S m)) (i := 5) (j := 3) (rest := [0, 1, 2, 4]) (by decide) (by simp [va_up])⟩
  | 5, _, 4, _, _ => exact ⟨hdR cS aR X ++ (wS cI (X.1 0) (X.2.1 0) ++ (wS cI (X.1 1) (X.2.1 1) ++ (wS cI (X.1 2) (X.2.1 2) ++ (wS cI (X.1 3) (X.2.1 3))))), fun S => seg_perm (head := hdR cS aR X) (seg := fun m => wS cI (X.1 m) (va_up X.2.1 5 S m)) (i := 5) (j := 4) (rest := [0, 1, 2, 3]) (by decide) (by simp [va_up])⟩
  | 5, _, 5, _, h => exact absurd rfl h
  | i + 6, h, _, _, _ => exact absurd h (by omega)
  | _, _, j + 6, h, _ => exact absurd h (by omega)
theorem kR_copyFrom (l : Launch) (D : va_G) (cI cS : ClassId) (aR : Nat → Nat) (X : RS) (i j : Nat) (hi : i < 6) (hj : j < 6) (hij : i ≠ j) : Mc l D (tyL cI cS) false yX2_copyFrom cX2_copyFrom 2 none 3 [.ref (X.1 i 0), .ref (X.1 j 0)] (wR cI cS aR X) none (wR cI cS aR (rset X i (X.2.1 j))) := by
  have h := kSS_copy l D cI cS (X.1 i) (X.1 j) (X.2.1 i, X.2.1 j)
  obtain ⟨pre, post, e1, e2⟩ := wR_split cI cS aR X i hi
  obtain ⟨fr, hf⟩ := wR_two cI cS aR X i j hi hj hij
  have h0 : (wR cI cS aR X).Perm ((wS cI (X.1 i) (X.2.1 i) ++ wS cI (X.1 j) (X.2.1 j)) ++ fr) := by
    rw [e1, ← e2]
    exact hf _
  exact h.frame h0 (hf _) rfl
