/-! ===== what the makers make ===== -/
abbrev mZ9 : List Value := [.int 0, .int 0, .int 0, .int 0, .int 0, .int 0, .int 0, .int 0, .int 0]
abbrev mqr (f : Nat → Option Nat) : (Nat → Int32) ⊕ (Nat → Int64) ⊕ (Nat → UInt32) ⊕ (Nat → UInt64) ⊕ (Nat → Option Nat) := .inr (.inr (.inr (.inr f)))
/-- a new state at t, its array, its list, its cells behind it -/
def mSt (Y : gL) (M : Nat → Option va_E) (t : Nat) : Prop := M t = some (.inr (2, [.ref (t + 1), .int 0, .int 0, .int 0, .int 0, .ref (t + 2), .int 0])) ∧ (∃ f : Nat → Option Nat, M (t + 1) = some (.inl (gTc Y, 12, .inr (.inr (.inr (.inr f))))) ∧ ∀ j, j < 12 → f j = some (t + 3 + j)) ∧ M (t + 2) = some (.inl (gTi Y, 12, .inl (fun _ => 0))) ∧ ∀ j, j < 12 → M (t + 3 + j) = some (.inr (0, mZ9))
theorem mSt.keep {Y : gL} {M M' : Nat → Option va_E} {t : Nat} (h : mSt Y M t) (hk : ∀ b, t ≤ b → b < t + 15 → M' b = M b) : mSt Y M' t := by
  obtain ⟨h1, ⟨f, h2, h3⟩, h4, h5⟩ := h
  exact ⟨(hk _ (by omega) (by omega)).trans h1, ⟨f, (hk _ (by omega) (by omega)).trans h2, h3⟩, (hk _ (by omega) (by omega)).trans h4, fun j hj => (hk _ (by omega) (by omega)).trans (h5 j hj)⟩
/-- a new graph at a, its arrays behind it -/
def mGr (Y : gL) (M : Nat → Option va_E) (a : Nat) : Prop := M a = some (.inr (1, [.ref (a + 1), .ref (a + 2), .ref (a + 3), .ref (a + 4), .ref (a + 5), .ref (a + 6), .int 0])) ∧ (∃ f : Nat → Int32, M (a + 1) = some (.inl (gTi Y, 10, .inl f)) ∧ ∀ j, j < 10 → f j = 0) ∧ (∃ f : Nat → Int32, M (a + 2) = some (.inl (gTi Y, 10, .inl f)) ∧ ∀ j, j < 10 → f j = -1) ∧ ∀ j, j < 4 → M (a + 3 + j) = some (.inl (gTi Y, 12, .inl (fun _ => 0)))
theorem mGr.keep {Y : gL} {M M' : Nat → Option va_E} {a : Nat} (h : mGr Y M a) (hk : ∀ b, a ≤ b → b < a + 7 → M' b = M b) : mGr Y M' a := by
  obtain ⟨h1, ⟨f, h2, h3⟩, ⟨g, h4, h5⟩, h6⟩ := h
  exact ⟨(hk _ (by omega) (by omega)).trans h1, ⟨f, (hk _ (by omega) (by omega)).trans h2, h3⟩, ⟨g, (hk _ (by omega) (by omega)).trans h4, h5⟩, fun j hj => (hk _ (by omega) (by omega)).trans (h6 j hj)⟩
section MK
variable {p : Program} {l : Launch} {e : Env} {R : Room} {s : State} {m : MethodId} {args : Array Value} {below : List Frame} {meth : Method} {c : Code} {ck cn : Nat} {Q : State → Prop} {pc : Nat} {lv : List (Nat × Value)} {st : List Value} {A : Nat → Prop} {X : Type} {HP : X → Heap → Prop} {x : X}
theorem mx_ck (k2 n2 : Nat) (h1 : ck = k2) (h2 : cn = n2) (kk : gW p l e R s m args below meth c HP A k2 n2 Q x pc lv st) : gW p l e R s m args below meth c HP A ck cn Q x pc lv st := by
  rw [h1, h2]
  exact kk
end MK
theorem ra_i {s : State} {tA cA : ClassId} (h : va_RA s tA .int) (h2 : s.vm.findClass ("[" ++ (FieldType.int).toString) = some cA) : cA = tA := Option.some.inj (h2.symm.trans h)
theorem ra_z {s : State} {tA cA : ClassId} (h : va_RA s tA .boolean) (h2 : s.vm.findClass ("[" ++ (FieldType.boolean).toString) = some cA) : cA = tA := Option.some.inj (h2.symm.trans h)
theorem va_cell_i {n : Nat} (cA : ClassId) : vp_cell cA (n, .inl (fun _ => 0)) = arrV cA n (fun _ => defaultValue .int) := rfl
theorem va_cell_z {n : Nat} (cA : ClassId) : vp_cell cA (n, .inl (fun _ => 0)) = arrV cA n (fun _ => defaultValue .boolean) := rfl
theorem j9 {j : Nat} (h : j < 9) : j = 0 ∨ j = 1 ∨ j = 2 ∨ j = 3 ∨ j = 4 ∨ j = 5 ∨ j = 6 ∨ j = 7 ∨ j = 8 := by omega
theorem j7 {j : Nat} (h : j < 7) : j = 0 ∨ j = 1 ∨ j = 2 ∨ j = 3 ∨ j = 4 ∨ j = 5 ∨ j = 6 := by omega
theorem dvX0 : ∀ j, j < 9 → defaultValue (tyX0 j) = vp_V mZ9 j := fun j hj => by rcases j9 hj with rfl | rfl | rfl | rfl | rfl | rfl | rfl | rfl | rfl <;> rfl
abbrev mZ1 : List Value := [.null, .null, .null, .null, .null, .null, .int 0]
theorem dvX1 : ∀ j, j < 7 → defaultValue (tyX1 j) = vp_V mZ1 j := fun j hj => by rcases j7 hj with rfl | rfl | rfl | rfl | rfl | rfl | rfl <;> rfl
abbrev mZ2 : List Value := [.null, .int 0, .int 0, .int 0, .int 0, .null, .int 0]
theorem dvX2 : ∀ j, j < 7 → defaultValue (tyX2 j) = vp_V mZ2 j := fun j hj => by rcases j7 hj with rfl | rfl | rfl | rfl | rfl | rfl | rfl <;> rfl
abbrev mZ3 : List Value := [.null, .null, .int 0, .null, .null, .int 0]
theorem dvX3 : ∀ j, j < 6 → defaultValue (tyX3 j) = vp_V mZ3 j := fun j hj => by rcases (show j = 0 ∨ j = 1 ∨ j = 2 ∨ j = 3 ∨ j = 4 ∨ j = 5 by omega) with rfl | rfl | rfl | rfl | rfl | rfl <;> rfl
abbrev mZ4 : List Value := [.null, .null, .int 0, .null, .null, .null, .null, .null, .int 0, .null, .null, .long 0]
theorem dvX4 : ∀ j, j < 12 → defaultValue (tyX4 j) = vp_V mZ4 j := fun j hj => by rcases (show j = 0 ∨ j = 1 ∨ j = 2 ∨ j = 3 ∨ j = 4 ∨ j = 5 ∨ j = 6 ∨ j = 7 ∨ j = 8 ∨ j = 9 ∨ j = 10 ∨ j = 11 by omega) with rfl | rfl | rfl | rfl | rfl | rfl | rfl | rfl | rfl | rfl | rfl | rfl <;> rfl
def mMo (Y : gL) (M : Nat → Option va_E) (a : Nat) : Prop := M a = some (.inr (4, [.ref (a + 1), .ref (a + 2), .int 0, .ref (a + 3), .ref (a + 4), .ref (a + 5), .ref (a + 6), .ref (a + 7), .int 0, .ref (a + 8), .ref (a + 9), .long 0])) ∧ M (a + 1) = some (.inl (gTi Y, 137, .inl (fun _ => 0))) ∧ M (a + 2) = some (.inl (gTi Y, 548, .inl (fun _ => 0))) ∧ M (a + 3) = some (.inl (gTi Y, 3, .inl (fun _ => 0))) ∧ M (a + 4) = some (.inl (gTi Y, 12, .inl (fun _ => 0))) ∧ M (a + 5) = some (.inl (gTi Y, 12, .inl (fun _ => 0))) ∧ M (a + 6) = some (.inl (gTi Y, 12, .inl (fun _ => 0))) ∧ M (a + 7) = some (.inl (gTi Y, 12, .inl (fun _ => 0))) ∧ M (a + 8) = some (.inl (gTz Y, 12, .inl (fun _ => 0))) ∧ M (a + 9) = some (.inl (gTi Y, 10, .inl (fun _ => 0)))
def mNb (Y : gL) (M : Nat → Option va_E) (a : Nat) : Prop := M a = some (.inr (3, [.ref (a + 1), .ref (a + 16), .int 0, .ref (a + 17), .ref (a + 18), .int 0])) ∧ mSt Y M (a + 1) ∧ (∃ f : Nat → Option Nat, M (a + 16) = some (.inl (gTs Y, 4, .inr (.inr (.inr (.inr f))))) ∧ ∀ j, j < 4 → f j = some (a + 25 + 15 * j)) ∧ M (a + 17) = some (.inl (gTi Y, 3, .inl (fun _ => 0))) ∧ mGr Y M (a + 18) ∧ ∀ j, j < 4 → mSt Y M (a + 25 + 15 * j)
