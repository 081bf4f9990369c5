/-! ===== gW: the machine at a frame, the heap told by a value x (HP x H), the locals by a list ===== -/
def gW {X : Type} (p : Program) (l : Launch) (e : Env) (R : Room) (s : State) (m : MethodId) (args : Array Value) (below : List Frame) (meth : Method) (c : Code) (HP : X → Heap → Prop) (A : Nat → Prop) (ck cn : Nat) (Q : State → Prop) (x : X) (pc : Nat) (lv : List (Nat × Value)) (st : List Value) : Prop :=
  ∀ (H : Heap) (locs : List Loc) (ls : Array Slot), HP x H → va_S A s.heap H locs → lv_has ls c.maxLocals lv → W p l e R s m args below meth c H locs ck cn Q (F0 m pc ls st)
/-- the code that runs -/
def gX (p : Program) (c : Code) (cc : ByteArray) (nL : Nat) : Prop := p.tables.exec = Jvm.exec ∧ c.code = cc ∧ c.maxLocals = nL
section GW
variable {p : Program} {l : Launch} {e : Env} {R : Room} {s : State} {m : MethodId} {args : Array Value} {below : List Frame} {meth : Method} {c : Code} {X : Type} {HP : X → Heap → Prop} {A : Nat → Prop} {ck cn : Nat} {Q : State → Prop} {x : X} {pc pc' : Nat} {lv : List (Nat × Value)} {st : List Value} {cc : ByteArray} {nL : Nat}
theorem gx_sub {lv' : List (Nat × Value)} (ks : List Nat) (h : lv_pick lv ks = lv') (kk : gW p l e R s m args below meth c HP A ck cn Q x pc lv' st) : gW p l e R s m args below meth c HP A ck cn Q x pc lv st := fun H locs ls h1 h2 h3 => kk H locs ls h1 h2 (lv_sub h3 ks h)
theorem gx_topi {a b : Int32} (h : a = b) (kk : gW p l e R s m args below meth c HP A ck cn Q x pc lv (.int b :: st)) : gW p l e R s m args below meth c HP A ck cn Q x pc lv (.int a :: st) := by rw [h]; exact kk
theorem gx_topr {a b : Nat} (h : a = b) (kk : gW p l e R s m args below meth c HP A ck cn Q x pc lv (.ref b :: st)) : gW p l e R s m args below meth c HP A ck cn Q x pc lv (.ref a :: st) := by rw [h]; exact kk
theorem gx_store {y : X} (h : x = y) (kk : gW p l e R s m args below meth c HP A ck cn Q y pc lv st) : gW p l e R s m args below meth c HP A ck cn Q x pc lv st := by rw [h]; exact kk

theorem gx_iconst (hX : gX p c cc nL) {n : Int} {v : Int32} (hdg : decode cc pc = .ok (.iconst n, 1)) (hp : pc + 1 = pc') (hv : Int32.ofInt n = v) (kk : gW p l e R s m args below meth c HP A ck cn Q x pc' lv (.int v :: st)) : gW p l e R s m args below meth c HP A ck cn Q x pc lv st := by
  subst hp
  intro H locs ls h1 h2 h3
  exact lv_iconst hX.1 hX.2.1 hdg hv (kk H locs ls h1 h2 h3)
theorem gx_bipush (hX : gX p c cc nL) {n : Int} {v : Int32} (hdg : decode cc pc = .ok (.bipush n, 2)) (hp : pc + 2 = pc') (hv : (Int8.ofInt n).toInt32 = v) (kk : gW p l e R s m args below meth c HP A ck cn Q x pc' lv (.int v :: st)) : gW p l e R s m args below meth c HP A ck cn Q x pc lv st := by
  subst hp
  intro H locs ls h1 h2 h3
  exact lv_bipush hX.1 hX.2.1 hdg hv (kk H locs ls h1 h2 h3)
theorem gx_sipush (hX : gX p c cc nL) {n : Int} {v : Int32} (hdg : decode cc pc = .ok (.sipush n, 3)) (hp : pc + 3 = pc') (hv : (Int16.ofInt n).toInt32 = v) (kk : gW p l e R s m args below meth c HP A ck cn Q x pc' lv (.int v :: st)) : gW p l e R s m args below meth c HP A ck cn Q x pc lv st := by
  subst hp
  intro H locs ls h1 h2 h3
  exact lv_sipush hX.1 hX.2.1 hdg hv (kk H locs ls h1 h2 h3)
theorem gx_iload_n (hX : gX p c cc nL) (j : Nat) {k : Fin 4} {v : Int32} (hdg : decode cc pc = .ok (.iload_n k, 1)) (hp : pc + 1 = pc') (hl : lv[j]? = some ((k : Nat), .int v)) (kk : gW p l e R s m args below meth c HP A ck cn Q x pc' lv (.int v :: st)) : gW p l e R s m args below meth c HP A ck cn Q x pc lv st := by
  subst hp
  intro H locs ls h1 h2 h3
  exact lv_iload_n hX.1 hX.2.1 hdg rfl (lv_at h3 j hl) (kk H locs ls h1 h2 h3)
theorem gx_iload (hX : gX p c cc nL) (j : Nat) {k : Nat} {v : Int32} (hdg : decode cc pc = .ok (.iload k, 2)) (hp : pc + 2 = pc') (hl : lv[j]? = some (k, .int v)) (kk : gW p l e R s m args below meth c HP A ck cn Q x pc' lv (.int v :: st)) : gW p l e R s m args below meth c HP A ck cn Q x pc lv st := by
  subst hp
  intro H locs ls h1 h2 h3
  exact lv_iload hX.1 hX.2.1 hdg (lv_at h3 j hl) (kk H locs ls h1 h2 h3)
theorem gx_lload_n (hX : gX p c cc nL) (j : Nat) {k : Fin 4} {v : Int64} (hdg : decode cc pc = .ok (.lload_n k, 1)) (hp : pc + 1 = pc') (hl : lv[j]? = some ((k : Nat), .long v)) (kk : gW p l e R s m args below meth c HP A ck cn Q x pc' lv (.long v :: st)) : gW p l e R s m args below meth c HP A ck cn Q x pc lv st := by
  subst hp
  intro H locs ls h1 h2 h3
  exact lv_lload_n hX.1 hX.2.1 hdg rfl (lv_at h3 j hl) (kk H locs ls h1 h2 h3)
theorem gx_lload (hX : gX p c cc nL) (j : Nat) {k : Nat} {v : Int64} (hdg : decode cc pc = .ok (.lload k, 2)) (hp : pc + 2 = pc') (hl : lv[j]? = some (k, .long v)) (kk : gW p l e R s m args below meth c HP A ck cn Q x pc' lv (.long v :: st)) : gW p l e R s m args below meth c HP A ck cn Q x pc lv st := by
  subst hp
  intro H locs ls h1 h2 h3
  exact lv_lload hX.1 hX.2.1 hdg (lv_at h3 j hl) (kk H locs ls h1 h2 h3)
theorem gx_aload_n (hX : gX p c cc nL) (j : Nat) {k : Fin 4} {v : Nat} (hdg : decode cc pc = .ok (.aload_n k, 1)) (hp : pc + 1 = pc') (hl : lv[j]? = some ((k : Nat), .ref v)) (kk : gW p l e R s m args below meth c HP A ck cn Q x pc' lv (.ref v :: st)) : gW p l e R s m args below meth c HP A ck cn Q x pc lv st := by
  subst hp
  intro H locs ls h1 h2 h3
  exact lv_aload_n hX.1 hX.2.1 hdg rfl (lv_at h3 j hl) (kk H locs ls h1 h2 h3)
theorem gx_aload (hX : gX p c cc nL) (j : Nat) {k : Nat} {v : Nat} (hdg : decode cc pc = .ok (.aload k, 2)) (hp : pc + 2 = pc') (hl : lv[j]? = some (k, .ref v)) (kk : gW p l e R s m args below meth c HP A ck cn Q x pc' lv (.ref v :: st)) : gW p l e R s m args below meth c HP A ck cn Q x pc lv st := by
  subst hp
  intro H locs ls h1 h2 h3
  exact lv_aload hX.1 hX.2.1 hdg (lv_at h3 j hl) (kk H locs ls h1 h2 h3)
theorem gx_istore_n (hX : gX p c cc nL) {lv' : List (Nat × Value)} {k : Fin 4} {v : Int32} (hdg : decode cc pc = .ok (.istore_n k, 1)) (hp : pc + 1 = pc') (hn : (k : Nat) < nL) (hl : ((k : Nat), Value.int v) :: lv.filter (fun q => !(q.1 == (k : Nat)) && !(q.1 + 1 == (k : Nat) && q.2.category == 2)) = lv') (kk : gW p l e R s m args below meth c HP A ck cn Q x pc' lv' st) : gW p l e R s m args below meth c HP A ck cn Q x pc lv (.int v :: st) := by
  subst hp
  intro H locs ls h1 h2 h3
  exact lv_istore_n hX.1 hX.2.1 hdg rfl h3 (by rw [hX.2.2]; exact hn) hl (fun ls' h3' => kk H locs ls' h1 h2 h3')
theorem gx_istore (hX : gX p c cc nL) {lv' : List (Nat × Value)} {k : Nat} {v : Int32} (hdg : decode cc pc = .ok (.istore k, 2)) (hp : pc + 2 = pc') (hn : k < nL) (hl : (k, Value.int v) :: lv.filter (fun q => !(q.1 == k) && !(q.1 + 1 == k && q.2.category == 2)) = lv') (kk : gW p l e R s m args below meth c HP A ck cn Q x pc' lv' st) : gW p l e R s m args below meth c HP A ck cn Q x pc lv (.int v :: st) := by
  subst hp
  intro H locs ls h1 h2 h3
  exact lv_istore hX.1 hX.2.1 hdg h3 (by rw [hX.2.2]; exact hn) hl (fun ls' h3' => kk H locs ls' h1 h2 h3')
theorem gx_astore_n (hX : gX p c cc nL) {lv' : List (Nat × Value)} {k : Fin 4} {v : Nat} (hdg : decode cc pc = .ok (.astore_n k, 1)) (hp : pc + 1 = pc') (hn : (k : Nat) < nL) (hl : ((k : Nat), Value.ref v) :: lv.filter (fun q => !(q.1 == (k : Nat)) && !(q.1 + 1 == (k : Nat) && q.2.category == 2)) = lv') (kk : gW p l e R s m args below meth c HP A ck cn Q x pc' lv' st) : gW p l e R s m args below meth c HP A ck cn Q x pc lv (.ref v :: st) := by
  subst hp
  intro H locs ls h1 h2 h3
  exact lv_astore_n hX.1 hX.2.1 hdg rfl h3 (by rw [hX.2.2]; exact hn) hl (fun ls' h3' => kk H locs ls' h1 h2 h3')
theorem gx_astore (hX : gX p c cc nL) {lv' : List (Nat × Value)} {k : Nat} {v : Nat} (hdg : decode cc pc = .ok (.astore k, 2)) (hp : pc + 2 = pc') (hn : k < nL) (hl : (k, Value.ref v) :: lv.filter (fun q => !(q.1 == k) && !(q.1 + 1 == k && q.2.category == 2)) = lv') (kk : gW p l e R s m args below meth c HP A ck cn Q x pc' lv' st) : gW p l e R s m args below meth c HP A ck cn Q x pc lv (.ref v :: st) := by
  subst hp
  intro H locs ls h1 h2 h3
  exact lv_astore hX.1 hX.2.1 hdg h3 (by rw [hX.2.2]; exact hn) hl (fun ls' h3' => kk H locs ls' h1 h2 h3')
theorem gx_lstore_n (hX : gX p c cc nL) {lv' : List (Nat × Value)} {k : Fin 4} {v : Int64} (hdg : decode cc pc = .ok (.lstore_n k, 1)) (hp : pc + 1 = pc') (hn : (k : Nat) + 1 < nL) (hl : ((k : Nat), Value.long v) :: lv.filter (fun q => !(q.1 == (k : Nat)) && (!(q.1 == (k : Nat) + 1) && !(q.1 + 1 == (k : Nat) && q.2.category == 2))) = lv') (kk : gW p l e R s m args below meth c HP A ck cn Q x pc' lv' st) : gW p l e R s m args below meth c HP A ck cn Q x pc lv (.long v :: st) := by
  subst hp
  intro H locs ls h1 h2 h3
  exact lv_lstore_n hX.1 hX.2.1 hdg rfl h3 (by rw [hX.2.2]; exact hn) hl (fun ls' h3' => kk H locs ls' h1 h2 h3')
theorem gx_lstore (hX : gX p c cc nL) {lv' : List (Nat × Value)} {k : Nat} {v : Int64} (hdg : decode cc pc = .ok (.lstore k, 2)) (hp : pc + 2 = pc') (hn : k + 1 < nL) (hl : (k, Value.long v) :: lv.filter (fun q => !(q.1 == k) && (!(q.1 == k + 1) && !(q.1 + 1 == k && q.2.category == 2))) = lv') (kk : gW p l e R s m args below meth c HP A ck cn Q x pc' lv' st) : gW p l e R s m args below meth c HP A ck cn Q x pc lv (.long v :: st) := by
  subst hp
  intro H locs ls h1 h2 h3
  exact lv_lstore hX.1 hX.2.1 hdg h3 (by rw [hX.2.2]; exact hn) hl (fun ls' h3' => kk H locs ls' h1 h2 h3')
theorem gx_iinc (hX : gX p c cc nL) (j : Nat) {lv' : List (Nat × Value)} {i : Nat} {n : Int} {v w : Int32} (hdg : decode cc pc = .ok (.iinc i n, 3)) (hp : pc + 3 = pc') (hl : lv[j]? = some (i, .int v)) (hv : v + Int32.ofInt n = w) (hn : i < nL) (hlv : (i, Value.int w) :: lv.filter (fun q => !(q.1 == i) && !(q.1 + 1 == i && q.2.category == 2)) = lv') (kk : gW p l e R s m args below meth c HP A ck cn Q x pc' lv' st) : gW p l e R s m args below meth c HP A ck cn Q x pc lv st := by
  subst hp
  intro H locs ls h1 h2 h3
  exact lv_iinc (k := j) hX.1 hX.2.1 hdg h3 hl hv (by rw [hX.2.2]; exact hn) hlv (fun ls' h3' => kk H locs ls' h1 h2 h3')
theorem gx_iadd (hX : gX p c cc nL) {a b : Int32} (hdg : decode cc pc = .ok (.iadd, 1)) (hp : pc + 1 = pc')  (kk : gW p l e R s m args below meth c HP A ck cn Q x pc' lv (.int (a + b) :: st)) : gW p l e R s m args below meth c HP A ck cn Q x pc lv (.int b :: .int a :: st) := by
  subst hp
  intro H locs ls h1 h2 h3
  exact lv_iadd hX.1 hX.2.1 hdg (kk H locs ls h1 h2 h3)
theorem gx_isub (hX : gX p c cc nL) {a b : Int32} (hdg : decode cc pc = .ok (.isub, 1)) (hp : pc + 1 = pc')  (kk : gW p l e R s m args below meth c HP A ck cn Q x pc' lv (.int (a - b) :: st)) : gW p l e R s m args below meth c HP A ck cn Q x pc lv (.int b :: .int a :: st) := by
  subst hp
  intro H locs ls h1 h2 h3
  exact lv_isub hX.1 hX.2.1 hdg (kk H locs ls h1 h2 h3)
theorem gx_imul (hX : gX p c cc nL) {a b : Int32} (hdg : decode cc pc = .ok (.imul, 1)) (hp : pc + 1 = pc')  (kk : gW p l e R s m args below meth c HP A ck cn Q x pc' lv (.int (a * b) :: st)) : gW p l e R s m args below meth c HP A ck cn Q x pc lv (.int b :: .int a :: st) := by
  subst hp
  intro H locs ls h1 h2 h3
  exact lv_imul hX.1 hX.2.1 hdg (kk H locs ls h1 h2 h3)
theorem gx_iand (hX : gX p c cc nL) {a b : Int32} (hdg : decode cc pc = .ok (.iand, 1)) (hp : pc + 1 = pc')  (kk : gW p l e R s m args below meth c HP A ck cn Q x pc' lv (.int (a &&& b) :: st)) : gW p l e R s m args below meth c HP A ck cn Q x pc lv (.int b :: .int a :: st) := by
  subst hp
  intro H locs ls h1 h2 h3
  exact lv_iand hX.1 hX.2.1 hdg (kk H locs ls h1 h2 h3)
theorem gx_ior (hX : gX p c cc nL) {a b : Int32} (hdg : decode cc pc = .ok (.ior, 1)) (hp : pc + 1 = pc')  (kk : gW p l e R s m args below meth c HP A ck cn Q x pc' lv (.int (a ||| b) :: st)) : gW p l e R s m args below meth c HP A ck cn Q x pc lv (.int b :: .int a :: st) := by
  subst hp
  intro H locs ls h1 h2 h3
  exact lv_ior hX.1 hX.2.1 hdg (kk H locs ls h1 h2 h3)
theorem gx_ixor (hX : gX p c cc nL) {a b : Int32} (hdg : decode cc pc = .ok (.ixor, 1)) (hp : pc + 1 = pc')  (kk : gW p l e R s m args below meth c HP A ck cn Q x pc' lv (.int (a ^^^ b) :: st)) : gW p l e R s m args below meth c HP A ck cn Q x pc lv (.int b :: .int a :: st) := by
  subst hp
  intro H locs ls h1 h2 h3
  exact lv_ixor hX.1 hX.2.1 hdg (kk H locs ls h1 h2 h3)
theorem gx_idiv (hX : gX p c cc nL) {a b : Int32} (hdg : decode cc pc = .ok (.idiv, 1)) (hp : pc + 1 = pc') (hne : ¬ b = 0) (kk : gW p l e R s m args below meth c HP A ck cn Q x pc' lv (.int (a / b) :: st)) : gW p l e R s m args below meth c HP A ck cn Q x pc lv (.int b :: .int a :: st) := by
  subst hp
  intro H locs ls h1 h2 h3
  exact lv_idiv hX.1 hX.2.1 hdg hne (kk H locs ls h1 h2 h3)
theorem gx_ishl (hX : gX p c cc nL) {a b : Int32} (hdg : decode cc pc = .ok (.ishl, 1)) (hp : pc + 1 = pc')  (kk : gW p l e R s m args below meth c HP A ck cn Q x pc' lv (.int (a <<< (b &&& 31)) :: st)) : gW p l e R s m args below meth c HP A ck cn Q x pc lv (.int b :: .int a :: st) := by
  subst hp
  intro H locs ls h1 h2 h3
  exact lv_ishl hX.1 hX.2.1 hdg (kk H locs ls h1 h2 h3)
theorem gx_ishr (hX : gX p c cc nL) {a b : Int32} (hdg : decode cc pc = .ok (.ishr, 1)) (hp : pc + 1 = pc')  (kk : gW p l e R s m args below meth c HP A ck cn Q x pc' lv (.int (a >>> (b &&& 31)) :: st)) : gW p l e R s m args below meth c HP A ck cn Q x pc lv (.int b :: .int a :: st) := by
  subst hp
  intro H locs ls h1 h2 h3
  exact lv_ishr hX.1 hX.2.1 hdg (kk H locs ls h1 h2 h3)
theorem gx_iushr (hX : gX p c cc nL) {a b : Int32} (hdg : decode cc pc = .ok (.iushr, 1)) (hp : pc + 1 = pc')  (kk : gW p l e R s m args below meth c HP A ck cn Q x pc' lv (.int (a.toUInt32 >>> (b.toUInt32 &&& Int32.toUInt32 31)).toInt32 :: st)) : gW p l e R s m args below meth c HP A ck cn Q x pc lv (.int b :: .int a :: st) := by
  subst hp
  intro H locs ls h1 h2 h3
  exact lv_iushr hX.1 hX.2.1 hdg rfl (kk H locs ls h1 h2 h3)
theorem gx_ineg (hX : gX p c cc nL) {a : Int32} (hdg : decode cc pc = .ok (.ineg, 1)) (hp : pc + 1 = pc')  (kk : gW p l e R s m args below meth c HP A ck cn Q x pc' lv (.int (-a) :: st)) : gW p l e R s m args below meth c HP A ck cn Q x pc lv (.int a :: st) := by
  subst hp
  intro H locs ls h1 h2 h3
  exact lv_ineg hX.1 hX.2.1 hdg (kk H locs ls h1 h2 h3)
theorem gx_iaddN (hX : gX p c cc nL) {a b : Int32} {i j : Nat} (hdg : decode cc pc = .ok (.iadd, 1)) (hp : pc + 1 = pc') (ha : a = nI i) (hb : b = nI j) (kk : gW p l e R s m args below meth c HP A ck cn Q x pc' lv (.int (nI (i + j)) :: st)) : gW p l e R s m args below meth c HP A ck cn Q x pc lv (.int b :: .int a :: st) := by
  subst hp
  intro H locs ls h1 h2 h3
  subst ha hb
  rw [← nI_add] at kk
  exact lv_iadd hX.1 hX.2.1 hdg (kk H locs ls h1 h2 h3)
theorem gx_imulN (hX : gX p c cc nL) {a b : Int32} {i j : Nat} (hdg : decode cc pc = .ok (.imul, 1)) (hp : pc + 1 = pc') (ha : a = nI i) (hb : b = nI j) (kk : gW p l e R s m args below meth c HP A ck cn Q x pc' lv (.int (nI (i * j)) :: st)) : gW p l e R s m args below meth c HP A ck cn Q x pc lv (.int b :: .int a :: st) := by
  subst hp
  intro H locs ls h1 h2 h3
  subst ha hb
  rw [← pk_mul] at kk
  exact lv_imul hX.1 hX.2.1 hdg (kk H locs ls h1 h2 h3)
theorem gx_isubN (hX : gX p c cc nL) {a b : Int32} {i j : Nat} (hdg : decode cc pc = .ok (.isub, 1)) (hp : pc + 1 = pc') (ha : a = nI i) (hb : b = nI j) (hij : j ≤ i) (kk : gW p l e R s m args below meth c HP A ck cn Q x pc' lv (.int (nI (i - j)) :: st)) : gW p l e R s m args below meth c HP A ck cn Q x pc lv (.int b :: .int a :: st) := by
  subst hp
  intro H locs ls h1 h2 h3
  subst ha hb
  rw [← pk_sub hij] at kk
  exact lv_isub hX.1 hX.2.1 hdg (kk H locs ls h1 h2 h3)
theorem gx_ladd (hX : gX p c cc nL) {a b : Int64} (hdg : decode cc pc = .ok (.ladd, 1)) (hp : pc + 1 = pc')  (kk : gW p l e R s m args below meth c HP A ck cn Q x pc' lv (.long (a + b) :: st)) : gW p l e R s m args below meth c HP A ck cn Q x pc lv (.long b :: .long a :: st) := by
  subst hp
  intro H locs ls h1 h2 h3
  exact lv_ladd hX.1 hX.2.1 hdg (kk H locs ls h1 h2 h3)
theorem gx_lmul (hX : gX p c cc nL) {a b : Int64} (hdg : decode cc pc = .ok (.lmul, 1)) (hp : pc + 1 = pc')  (kk : gW p l e R s m args below meth c HP A ck cn Q x pc' lv (.long (a * b) :: st)) : gW p l e R s m args below meth c HP A ck cn Q x pc lv (.long b :: .long a :: st) := by
  subst hp
  intro H locs ls h1 h2 h3
  exact lv_lmul hX.1 hX.2.1 hdg (kk H locs ls h1 h2 h3)
theorem gx_i2l (hX : gX p c cc nL) {a : Int32} (hdg : decode cc pc = .ok (.i2l, 1)) (hp : pc + 1 = pc')  (kk : gW p l e R s m args below meth c HP A ck cn Q x pc' lv (.long a.toInt64 :: st)) : gW p l e R s m args below meth c HP A ck cn Q x pc lv (.int a :: st) := by
  subst hp
  intro H locs ls h1 h2 h3
  exact lv_i2l hX.1 hX.2.1 hdg rfl (kk H locs ls h1 h2 h3)
theorem gx_lcmp (hX : gX p c cc nL) {a b : Int64} (hdg : decode cc pc = .ok (.lcmp, 1)) (hp : pc + 1 = pc')  (kk : gW p l e R s m args below meth c HP A ck cn Q x pc' lv (.int (lg_cmp a b) :: st)) : gW p l e R s m args below meth c HP A ck cn Q x pc lv (.long b :: .long a :: st) := by
  subst hp
  intro H locs ls h1 h2 h3
  exact W.lcmp hX.1 hX.2.1 hdg (kk H locs ls h1 h2 h3)
theorem gx_dup (hX : gX p c cc nL) {v : Value} (hdg : decode cc pc = .ok (.dup, 1)) (hp : pc + 1 = pc') (hv : v.category = 1) (kk : gW p l e R s m args below meth c HP A ck cn Q x pc' lv (v :: v :: st)) : gW p l e R s m args below meth c HP A ck cn Q x pc lv (v :: st) := by
  subst hp
  intro H locs ls h1 h2 h3
  exact lv_dup hX.1 hX.2.1 hdg hv (kk H locs ls h1 h2 h3)
theorem gx_dup2 (hX : gX p c cc nL) {v w : Value} (hdg : decode cc pc = .ok (.dup2, 1)) (hp : pc + 1 = pc') (hv : v.category = 1) (hw : w.category = 1) (kk : gW p l e R s m args below meth c HP A ck cn Q x pc' lv (v :: w :: v :: w :: st)) : gW p l e R s m args below meth c HP A ck cn Q x pc lv (v :: w :: st) := by
  subst hp
  intro H locs ls h1 h2 h3
  exact lv_dup2_11 hX.1 hX.2.1 hdg hv hw (kk H locs ls h1 h2 h3)
theorem gx_pop (hX : gX p c cc nL) {v : Value} (hdg : decode cc pc = .ok (.pop, 1)) (hp : pc + 1 = pc') (hv : v.category = 1) (kk : gW p l e R s m args below meth c HP A ck cn Q x pc' lv st) : gW p l e R s m args below meth c HP A ck cn Q x pc lv (v :: st) := by
  subst hp
  intro H locs ls h1 h2 h3
  exact lv_pop hX.1 hX.2.1 hdg hv (kk H locs ls h1 h2 h3)
theorem gx_goto (hX : gX p c cc nL) {off : Int} (hdg : decode cc pc = .ok (.goto off, 3)) (ht : (pc : Int) + off = (pc' : Int)) (kk : gW p l e R s m args below meth c HP A ck cn Q x pc' lv st) : gW p l e R s m args below meth c HP A ck cn Q x pc lv st := fun H locs ls h1 h2 h3 => lv_goto hX.1 hX.2.1 hdg ht (kk H locs ls h1 h2 h3)
theorem gx_if_eq (hX : gX p c cc nL) {x0 : Int32} {off : Int} {tgt : Nat} (hdg : decode cc pc = .ok (.ifCond .eq off, 3)) (ht : (pc : Int) + off = (tgt : Int)) (hp : pc + 3 = pc') (kt : x0 = 0 → gW p l e R s m args below meth c HP A ck cn Q x tgt lv st) (kf : ¬ x0 = 0 → gW p l e R s m args below meth c HP A ck cn Q x pc' lv st) : gW p l e R s m args below meth c HP A ck cn Q x pc lv (.int x0 :: st) := by
  subst hp
  intro H locs ls h1 h2 h3
  exact lv_if_eq hX.1 hX.2.1 hdg ht (fun q => kt q H locs ls h1 h2 h3) (fun q => kf q H locs ls h1 h2 h3)
theorem gx_icmp_eq (hX : gX p c cc nL) {x0 y0 : Int32} {off : Int} {tgt : Nat} (hdg : decode cc pc = .ok (.if_icmp .eq off, 3)) (ht : (pc : Int) + off = (tgt : Int)) (hp : pc + 3 = pc') (kt : x0 = y0 → gW p l e R s m args below meth c HP A ck cn Q x tgt lv st) (kf : ¬ x0 = y0 → gW p l e R s m args below meth c HP A ck cn Q x pc' lv st) : gW p l e R s m args below meth c HP A ck cn Q x pc lv (.int y0 :: .int x0 :: st) := by
  subst hp
  intro H locs ls h1 h2 h3
  exact lv_icmp_eq hX.1 hX.2.1 hdg ht (fun q => kt q H locs ls h1 h2 h3) (fun q => kf q H locs ls h1 h2 h3)
theorem gx_if_ne (hX : gX p c cc nL) {x0 : Int32} {off : Int} {tgt : Nat} (hdg : decode cc pc = .ok (.ifCond .ne off, 3)) (ht : (pc : Int) + off = (tgt : Int)) (hp : pc + 3 = pc') (kt : ¬ x0 = 0 → gW p l e R s m args below meth c HP A ck cn Q x tgt lv st) (kf : x0 = 0 → gW p l e R s m args below meth c HP A ck cn Q x pc' lv st) : gW p l e R s m args below meth c HP A ck cn Q x pc lv (.int x0 :: st) := by
  subst hp
  intro H locs ls h1 h2 h3
  exact lv_if_ne hX.1 hX.2.1 hdg ht (fun q => kt q H locs ls h1 h2 h3) (fun q => kf q H locs ls h1 h2 h3)
theorem gx_icmp_ne (hX : gX p c cc nL) {x0 y0 : Int32} {off : Int} {tgt : Nat} (hdg : decode cc pc = .ok (.if_icmp .ne off, 3)) (ht : (pc : Int) + off = (tgt : Int)) (hp : pc + 3 = pc') (kt : ¬ x0 = y0 → gW p l e R s m args below meth c HP A ck cn Q x tgt lv st) (kf : x0 = y0 → gW p l e R s m args below meth c HP A ck cn Q x pc' lv st) : gW p l e R s m args below meth c HP A ck cn Q x pc lv (.int y0 :: .int x0 :: st) := by
  subst hp
  intro H locs ls h1 h2 h3
  exact lv_icmp_ne hX.1 hX.2.1 hdg ht (fun q => kt q H locs ls h1 h2 h3) (fun q => kf q H locs ls h1 h2 h3)
theorem gx_if_lt (hX : gX p c cc nL) {x0 : Int32} {off : Int} {tgt : Nat} (hdg : decode cc pc = .ok (.ifCond .lt off, 3)) (ht : (pc : Int) + off = (tgt : Int)) (hp : pc + 3 = pc') (kt : x0 < 0 → gW p l e R s m args below meth c HP A ck cn Q x tgt lv st) (kf : ¬ x0 < 0 → gW p l e R s m args below meth c HP A ck cn Q x pc' lv st) : gW p l e R s m args below meth c HP A ck cn Q x pc lv (.int x0 :: st) := by
  subst hp
  intro H locs ls h1 h2 h3
  exact lv_if_lt hX.1 hX.2.1 hdg ht (fun q => kt q H locs ls h1 h2 h3) (fun q => kf q H locs ls h1 h2 h3)
theorem gx_icmp_lt (hX : gX p c cc nL) {x0 y0 : Int32} {off : Int} {tgt : Nat} (hdg : decode cc pc = .ok (.if_icmp .lt off, 3)) (ht : (pc : Int) + off = (tgt : Int)) (hp : pc + 3 = pc') (kt : x0 < y0 → gW p l e R s m args below meth c HP A ck cn Q x tgt lv st) (kf : ¬ x0 < y0 → gW p l e R s m args below meth c HP A ck cn Q x pc' lv st) : gW p l e R s m args below meth c HP A ck cn Q x pc lv (.int y0 :: .int x0 :: st) := by
  subst hp
  intro H locs ls h1 h2 h3
  exact lv_icmp_lt hX.1 hX.2.1 hdg ht (fun q => kt q H locs ls h1 h2 h3) (fun q => kf q H locs ls h1 h2 h3)
theorem gx_if_ge (hX : gX p c cc nL) {x0 : Int32} {off : Int} {tgt : Nat} (hdg : decode cc pc = .ok (.ifCond .ge off, 3)) (ht : (pc : Int) + off = (tgt : Int)) (hp : pc + 3 = pc') (kt : 0 ≤ x0 → gW p l e R s m args below meth c HP A ck cn Q x tgt lv st) (kf : ¬ 0 ≤ x0 → gW p l e R s m args below meth c HP A ck cn Q x pc' lv st) : gW p l e R s m args below meth c HP A ck cn Q x pc lv (.int x0 :: st) := by
  subst hp
  intro H locs ls h1 h2 h3
  exact lv_if_ge hX.1 hX.2.1 hdg ht (fun q => kt q H locs ls h1 h2 h3) (fun q => kf q H locs ls h1 h2 h3)
theorem gx_icmp_ge (hX : gX p c cc nL) {x0 y0 : Int32} {off : Int} {tgt : Nat} (hdg : decode cc pc = .ok (.if_icmp .ge off, 3)) (ht : (pc : Int) + off = (tgt : Int)) (hp : pc + 3 = pc') (kt : y0 ≤ x0 → gW p l e R s m args below meth c HP A ck cn Q x tgt lv st) (kf : ¬ y0 ≤ x0 → gW p l e R s m args below meth c HP A ck cn Q x pc' lv st) : gW p l e R s m args below meth c HP A ck cn Q x pc lv (.int y0 :: .int x0 :: st) := by
  subst hp
  intro H locs ls h1 h2 h3
  exact lv_icmp_ge hX.1 hX.2.1 hdg ht (fun q => kt q H locs ls h1 h2 h3) (fun q => kf q H locs ls h1 h2 h3)
theorem gx_if_gt (hX : gX p c cc nL) {x0 : Int32} {off : Int} {tgt : Nat} (hdg : decode cc pc = .ok (.ifCond .gt off, 3)) (ht : (pc : Int) + off = (tgt : Int)) (hp : pc + 3 = pc') (kt : 0 < x0 → gW p l e R s m args below meth c HP A ck cn Q x tgt lv st) (kf : ¬ 0 < x0 → gW p l e R s m args below meth c HP A ck cn Q x pc' lv st) : gW p l e R s m args below meth c HP A ck cn Q x pc lv (.int x0 :: st) := by
  subst hp
  intro H locs ls h1 h2 h3
  exact lv_if_gt hX.1 hX.2.1 hdg ht (fun q => kt q H locs ls h1 h2 h3) (fun q => kf q H locs ls h1 h2 h3)
theorem gx_icmp_gt (hX : gX p c cc nL) {x0 y0 : Int32} {off : Int} {tgt : Nat} (hdg : decode cc pc = .ok (.if_icmp .gt off, 3)) (ht : (pc : Int) + off = (tgt : Int)) (hp : pc + 3 = pc') (kt : y0 < x0 → gW p l e R s m args below meth c HP A ck cn Q x tgt lv st) (kf : ¬ y0 < x0 → gW p l e R s m args below meth c HP A ck cn Q x pc' lv st) : gW p l e R s m args below meth c HP A ck cn Q x pc lv (.int y0 :: .int x0 :: st) := by
  subst hp
  intro H locs ls h1 h2 h3
  exact lv_icmp_gt hX.1 hX.2.1 hdg ht (fun q => kt q H locs ls h1 h2 h3) (fun q => kf q H locs ls h1 h2 h3)
theorem gx_if_le (hX : gX p c cc nL) {x0 : Int32} {off : Int} {tgt : Nat} (hdg : decode cc pc = .ok (.ifCond .le off, 3)) (ht : (pc : Int) + off = (tgt : Int)) (hp : pc + 3 = pc') (kt : x0 ≤ 0 → gW p l e R s m args below meth c HP A ck cn Q x tgt lv st) (kf : ¬ x0 ≤ 0 → gW p l e R s m args below meth c HP A ck cn Q x pc' lv st) : gW p l e R s m args below meth c HP A ck cn Q x pc lv (.int x0 :: st) := by
  subst hp
  intro H locs ls h1 h2 h3
  exact lv_if_le hX.1 hX.2.1 hdg ht (fun q => kt q H locs ls h1 h2 h3) (fun q => kf q H locs ls h1 h2 h3)
theorem gx_icmp_le (hX : gX p c cc nL) {x0 y0 : Int32} {off : Int} {tgt : Nat} (hdg : decode cc pc = .ok (.if_icmp .le off, 3)) (ht : (pc : Int) + off = (tgt : Int)) (hp : pc + 3 = pc') (kt : x0 ≤ y0 → gW p l e R s m args below meth c HP A ck cn Q x tgt lv st) (kf : ¬ x0 ≤ y0 → gW p l e R s m args below meth c HP A ck cn Q x pc' lv st) : gW p l e R s m args below meth c HP A ck cn Q x pc lv (.int y0 :: .int x0 :: st) := by
  subst hp
  intro H locs ls h1 h2 h3
  exact lv_icmp_le hX.1 hX.2.1 hdg ht (fun q => kt q H locs ls h1 h2 h3) (fun q => kf q H locs ls h1 h2 h3)
theorem gx_if_eq_t (hX : gX p c cc nL) {x0 : Int32} {off : Int} {tgt : Nat} (hdg : decode cc pc = .ok (.ifCond .eq off, 3)) (ht : (pc : Int) + off = (tgt : Int)) (hy : ¬ (¬ x0 = 0)) (kt : gW p l e R s m args below meth c HP A ck cn Q x tgt lv st) : gW p l e R s m args below meth c HP A ck cn Q x pc lv (.int x0 :: st) := gx_if_eq hX hdg ht rfl (fun _ => kt) (fun q => absurd q hy)
theorem gx_if_eq_f (hX : gX p c cc nL) {x0 : Int32} {off : Int} {tgt : Nat} (hdg : decode cc pc = .ok (.ifCond .eq off, 3)) (ht : (pc : Int) + off = (tgt : Int)) (hp : pc + 3 = pc') (hy : ¬ (x0 = 0)) (kf : gW p l e R s m args below meth c HP A ck cn Q x pc' lv st) : gW p l e R s m args below meth c HP A ck cn Q x pc lv (.int x0 :: st) := gx_if_eq hX hdg ht hp (fun q => absurd q hy) (fun _ => kf)
theorem gx_icmp_eq_t (hX : gX p c cc nL) {x0 y0 : Int32} {off : Int} {tgt : Nat} (hdg : decode cc pc = .ok (.if_icmp .eq off, 3)) (ht : (pc : Int) + off = (tgt : Int)) (hy : ¬ (¬ x0 = y0)) (kt : gW p l e R s m args below meth c HP A ck cn Q x tgt lv st) : gW p l e R s m args below meth c HP A ck cn Q x pc lv (.int y0 :: .int x0 :: st) := gx_icmp_eq hX hdg ht rfl (fun _ => kt) (fun q => absurd q hy)
theorem gx_icmp_eq_f (hX : gX p c cc nL) {x0 y0 : Int32} {off : Int} {tgt : Nat} (hdg : decode cc pc = .ok (.if_icmp .eq off, 3)) (ht : (pc : Int) + off = (tgt : Int)) (hp : pc + 3 = pc') (hy : ¬ (x0 = y0)) (kf : gW p l e R s m args below meth c HP A ck cn Q x pc' lv st) : gW p l e R s m args below meth c HP A ck cn Q x pc lv (.int y0 :: .int x0 :: st) := gx_icmp_eq hX hdg ht hp (fun q => absurd q hy) (fun _ => kf)
theorem gx_if_ne_t (hX : gX p c cc nL) {x0 : Int32} {off : Int} {tgt : Nat} (hdg : decode cc pc = .ok (.ifCond .ne off, 3)) (ht : (pc : Int) + off = (tgt : Int)) (hy : ¬ (x0 = 0)) (kt : gW p l e R s m args below meth c HP A ck cn Q x tgt lv st) : gW p l e R s m args below meth c HP A ck cn Q x pc lv (.int x0 :: st) := gx_if_ne hX hdg ht rfl (fun _ => kt) (fun q => absurd q hy)
theorem gx_if_ne_f (hX : gX p c cc nL) {x0 : Int32} {off : Int} {tgt : Nat} (hdg : decode cc pc = .ok (.ifCond .ne off, 3)) (ht : (pc : Int) + off = (tgt : Int)) (hp : pc + 3 = pc') (hy : ¬ (¬ x0 = 0)) (kf : gW p l e R s m args below meth c HP A ck cn Q x pc' lv st) : gW p l e R s m args below meth c HP A ck cn Q x pc lv (.int x0 :: st) := gx_if_ne hX hdg ht hp (fun q => absurd q hy) (fun _ => kf)
theorem gx_icmp_ne_t (hX : gX p c cc nL) {x0 y0 : Int32} {off : Int} {tgt : Nat} (hdg : decode cc pc = .ok (.if_icmp .ne off, 3)) (ht : (pc : Int) + off = (tgt : Int)) (hy : ¬ (x0 = y0)) (kt : gW p l e R s m args below meth c HP A ck cn Q x tgt lv st) : gW p l e R s m args below meth c HP A ck cn Q x pc lv (.int y0 :: .int x0 :: st) := gx_icmp_ne hX hdg ht rfl (fun _ => kt) (fun q => absurd q hy)
theorem gx_icmp_ne_f (hX : gX p c cc nL) {x0 y0 : Int32} {off : Int} {tgt : Nat} (hdg : decode cc pc = .ok (.if_icmp .ne off, 3)) (ht : (pc : Int) + off = (tgt : Int)) (hp : pc + 3 = pc') (hy : ¬ (¬ x0 = y0)) (kf : gW p l e R s m args below meth c HP A ck cn Q x pc' lv st) : gW p l e R s m args below meth c HP A ck cn Q x pc lv (.int y0 :: .int x0 :: st) := gx_icmp_ne hX hdg ht hp (fun q => absurd q hy) (fun _ => kf)
theorem gx_if_lt_t (hX : gX p c cc nL) {x0 : Int32} {off : Int} {tgt : Nat} (hdg : decode cc pc = .ok (.ifCond .lt off, 3)) (ht : (pc : Int) + off = (tgt : Int)) (hy : ¬ (¬ x0 < 0)) (kt : gW p l e R s m args below meth c HP A ck cn Q x tgt lv st) : gW p l e R s m args below meth c HP A ck cn Q x pc lv (.int x0 :: st) := gx_if_lt hX hdg ht rfl (fun _ => kt) (fun q => absurd q hy)
theorem gx_if_lt_f (hX : gX p c cc nL) {x0 : Int32} {off : Int} {tgt : Nat} (hdg : decode cc pc = .ok (.ifCond .lt off, 3)) (ht : (pc : Int) + off = (tgt : Int)) (hp : pc + 3 = pc') (hy : ¬ (x0 < 0)) (kf : gW p l e R s m args below meth c HP A ck cn Q x pc' lv st) : gW p l e R s m args below meth c HP A ck cn Q x pc lv (.int x0 :: st) := gx_if_lt hX hdg ht hp (fun q => absurd q hy) (fun _ => kf)
theorem gx_icmp_lt_t (hX : gX p c cc nL) {x0 y0 : Int32} {off : Int} {tgt : Nat} (hdg : decode cc pc = .ok (.if_icmp .lt off, 3)) (ht : (pc : Int) + off = (tgt : Int)) (hy : ¬ (¬ x0 < y0)) (kt : gW p l e R s m args below meth c HP A ck cn Q x tgt lv st) : gW p l e R s m args below meth c HP A ck cn Q x pc lv (.int y0 :: .int x0 :: st) := gx_icmp_lt hX hdg ht rfl (fun _ => kt) (fun q => absurd q hy)
theorem gx_icmp_lt_f (hX : gX p c cc nL) {x0 y0 : Int32} {off : Int} {tgt : Nat} (hdg : decode cc pc = .ok (.if_icmp .lt off, 3)) (ht : (pc : Int) + off = (tgt : Int)) (hp : pc + 3 = pc') (hy : ¬ (x0 < y0)) (kf : gW p l e R s m args below meth c HP A ck cn Q x pc' lv st) : gW p l e R s m args below meth c HP A ck cn Q x pc lv (.int y0 :: .int x0 :: st) := gx_icmp_lt hX hdg ht hp (fun q => absurd q hy) (fun _ => kf)
theorem gx_if_ge_t (hX : gX p c cc nL) {x0 : Int32} {off : Int} {tgt : Nat} (hdg : decode cc pc = .ok (.ifCond .ge off, 3)) (ht : (pc : Int) + off = (tgt : Int)) (hy : ¬ (¬ 0 ≤ x0)) (kt : gW p l e R s m args below meth c HP A ck cn Q x tgt lv st) : gW p l e R s m args below meth c HP A ck cn Q x pc lv (.int x0 :: st) := gx_if_ge hX hdg ht rfl (fun _ => kt) (fun q => absurd q hy)
theorem gx_if_ge_f (hX : gX p c cc nL) {x0 : Int32} {off : Int} {tgt : Nat} (hdg : decode cc pc = .ok (.ifCond .ge off, 3)) (ht : (pc : Int) + off = (tgt : Int)) (hp : pc + 3 = pc') (hy : ¬ (0 ≤ x0)) (kf : gW p l e R s m args below meth c HP A ck cn Q x pc' lv st) : gW p l e R s m args below meth c HP A ck cn Q x pc lv (.int x0 :: st) := gx_if_ge hX hdg ht hp (fun q => absurd q hy) (fun _ => kf)
theorem gx_icmp_ge_t (hX : gX p c cc nL) {x0 y0 : Int32} {off : Int} {tgt : Nat} (hdg : decode cc pc = .ok (.if_icmp .ge off, 3)) (ht : (pc : Int) + off = (tgt : Int)) (hy : ¬ (¬ y0 ≤ x0)) (kt : gW p l e R s m args below meth c HP A ck cn Q x tgt lv st) : gW p l e R s m args below meth c HP A ck cn Q x pc lv (.int y0 :: .int x0 :: st) := gx_icmp_ge hX hdg ht rfl (fun _ => kt) (fun q => absurd q hy)
theorem gx_icmp_ge_f (hX : gX p c cc nL) {x0 y0 : Int32} {off : Int} {tgt : Nat} (hdg : decode cc pc = .ok (.if_icmp .ge off, 3)) (ht : (pc : Int) + off = (tgt : Int)) (hp : pc + 3 = pc') (hy : ¬ (y0 ≤ x0)) (kf : gW p l e R s m args below meth c HP A ck cn Q x pc' lv st) : gW p l e R s m args below meth c HP A ck cn Q x pc lv (.int y0 :: .int x0 :: st) := gx_icmp_ge hX hdg ht hp (fun q => absurd q hy) (fun _ => kf)
theorem gx_if_gt_t (hX : gX p c cc nL) {x0 : Int32} {off : Int} {tgt : Nat} (hdg : decode cc pc = .ok (.ifCond .gt off, 3)) (ht : (pc : Int) + off = (tgt : Int)) (hy : ¬ (¬ 0 < x0)) (kt : gW p l e R s m args below meth c HP A ck cn Q x tgt lv st) : gW p l e R s m args below meth c HP A ck cn Q x pc lv (.int x0 :: st) := gx_if_gt hX hdg ht rfl (fun _ => kt) (fun q => absurd q hy)
theorem gx_if_gt_f (hX : gX p c cc nL) {x0 : Int32} {off : Int} {tgt : Nat} (hdg : decode cc pc = .ok (.ifCond .gt off, 3)) (ht : (pc : Int) + off = (tgt : Int)) (hp : pc + 3 = pc') (hy : ¬ (0 < x0)) (kf : gW p l e R s m args below meth c HP A ck cn Q x pc' lv st) : gW p l e R s m args below meth c HP A ck cn Q x pc lv (.int x0 :: st) := gx_if_gt hX hdg ht hp (fun q => absurd q hy) (fun _ => kf)
theorem gx_icmp_gt_t (hX : gX p c cc nL) {x0 y0 : Int32} {off : Int} {tgt : Nat} (hdg : decode cc pc = .ok (.if_icmp .gt off, 3)) (ht : (pc : Int) + off = (tgt : Int)) (hy : ¬ (¬ y0 < x0)) (kt : gW p l e R s m args below meth c HP A ck cn Q x tgt lv st) : gW p l e R s m args below meth c HP A ck cn Q x pc lv (.int y0 :: .int x0 :: st) := gx_icmp_gt hX hdg ht rfl (fun _ => kt) (fun q => absurd q hy)
theorem gx_icmp_gt_f (hX : gX p c cc nL) {x0 y0 : Int32} {off : Int} {tgt : Nat} (hdg : decode cc pc = .ok (.if_icmp .gt off, 3)) (ht : (pc : Int) + off = (tgt : Int)) (hp : pc + 3 = pc') (hy : ¬ (y0 < x0)) (kf : gW p l e R s m args below meth c HP A ck cn Q x pc' lv st) : gW p l e R s m args below meth c HP A ck cn Q x pc lv (.int y0 :: .int x0 :: st) := gx_icmp_gt hX hdg ht hp (fun q => absurd q hy) (fun _ => kf)
theorem gx_if_le_t (hX : gX p c cc nL) {x0 : Int32} {off : Int} {tgt : Nat} (hdg : decode cc pc = .ok (.ifCond .le off, 3)) (ht : (pc : Int) + off = (tgt : Int)) (hy : ¬ (¬ x0 ≤ 0)) (kt : gW p l e R s m args below meth c HP A ck cn Q x tgt lv st) : gW p l e R s m args below meth c HP A ck cn Q x pc lv (.int x0 :: st) := gx_if_le hX hdg ht rfl (fun _ => kt) (fun q => absurd q hy)
theorem gx_if_le_f (hX : gX p c cc nL) {x0 : Int32} {off : Int} {tgt : Nat} (hdg : decode cc pc = .ok (.ifCond .le off, 3)) (ht : (pc : Int) + off = (tgt : Int)) (hp : pc + 3 = pc') (hy : ¬ (x0 ≤ 0)) (kf : gW p l e R s m args below meth c HP A ck cn Q x pc' lv st) : gW p l e R s m args below meth c HP A ck cn Q x pc lv (.int x0 :: st) := gx_if_le hX hdg ht hp (fun q => absurd q hy) (fun _ => kf)
theorem gx_icmp_le_t (hX : gX p c cc nL) {x0 y0 : Int32} {off : Int} {tgt : Nat} (hdg : decode cc pc = .ok (.if_icmp .le off, 3)) (ht : (pc : Int) + off = (tgt : Int)) (hy : ¬ (¬ x0 ≤ y0)) (kt : gW p l e R s m args below meth c HP A ck cn Q x tgt lv st) : gW p l e R s m args below meth c HP A ck cn Q x pc lv (.int y0 :: .int x0 :: st) := gx_icmp_le hX hdg ht rfl (fun _ => kt) (fun q => absurd q hy)
theorem gx_icmp_le_f (hX : gX p c cc nL) {x0 y0 : Int32} {off : Int} {tgt : Nat} (hdg : decode cc pc = .ok (.if_icmp .le off, 3)) (ht : (pc : Int) + off = (tgt : Int)) (hp : pc + 3 = pc') (hy : ¬ (x0 ≤ y0)) (kf : gW p l e R s m args below meth c HP A ck cn Q x pc' lv st) : gW p l e R s m args below meth c HP A ck cn Q x pc lv (.int y0 :: .int x0 :: st) := gx_icmp_le hX hdg ht hp (fun q => absurd q hy) (fun _ => kf)
theorem gx_nat_eq (hX : gX p c cc nL) {x0 y0 : Int32} {i j : Nat} {off : Int} {tgt : Nat} (hdg : decode cc pc = .ok (.if_icmp .eq off, 3)) (ht : (pc : Int) + off = (tgt : Int)) (hp : pc + 3 = pc') (hx : x0 = nI i) (hy : y0 = nI j) (hi : i < 2 ^ 31) (hj : j < 2 ^ 31) (kt : i = j → gW p l e R s m args below meth c HP A ck cn Q x tgt lv st) (kf : i ≠ j → gW p l e R s m args below meth c HP A ck cn Q x pc' lv st) : gW p l e R s m args below meth c HP A ck cn Q x pc lv (.int y0 :: .int x0 :: st) := by
  subst hx hy
  have e1 := nI_eq hi hj
  have e2 := nI_ltI hi hj
  have e3 := nI_ltI hj hi
  have e4 := nI_leI hi hj
  have e5 := nI_leI hj hi
  refine gx_icmp_eq hX hdg ht hp (fun q => kt ?_) (fun q => kf ?_)
  all_goals first | exact e1.mp q | exact e2.mp q | exact e3.mp q | exact e4.mp q | exact e5.mp q | (simp only [e1] at q; omega) | (simp only [e2] at q; omega) | (simp only [e3] at q; omega) | (simp only [e4] at q; omega) | (simp only [e5] at q; omega)
theorem gx_nat_ne (hX : gX p c cc nL) {x0 y0 : Int32} {i j : Nat} {off : Int} {tgt : Nat} (hdg : decode cc pc = .ok (.if_icmp .ne off, 3)) (ht : (pc : Int) + off = (tgt : Int)) (hp : pc + 3 = pc') (hx : x0 = nI i) (hy : y0 = nI j) (hi : i < 2 ^ 31) (hj : j < 2 ^ 31) (kt : i ≠ j → gW p l e R s m args below meth c HP A ck cn Q x tgt lv st) (kf : i = j → gW p l e R s m args below meth c HP A ck cn Q x pc' lv st) : gW p l e R s m args below meth c HP A ck cn Q x pc lv (.int y0 :: .int x0 :: st) := by
  subst hx hy
  have e1 := nI_eq hi hj
  have e2 := nI_ltI hi hj
  have e3 := nI_ltI hj hi
  have e4 := nI_leI hi hj
  have e5 := nI_leI hj hi
  refine gx_icmp_ne hX hdg ht hp (fun q => kt ?_) (fun q => kf ?_)
  all_goals first | exact e1.mp q | exact e2.mp q | exact e3.mp q | exact e4.mp q | exact e5.mp q | (simp only [e1] at q; omega) | (simp only [e2] at q; omega) | (simp only [e3] at q; omega) | (simp only [e4] at q; omega) | (simp only [e5] at q; omega)
theorem gx_nat_lt (hX : gX p c cc nL) {x0 y0 : Int32} {i j : Nat} {off : Int} {tgt : Nat} (hdg : decode cc pc = .ok (.if_icmp .lt off, 3)) (ht : (pc : Int) + off = (tgt : Int)) (hp : pc + 3 = pc') (hx : x0 = nI i) (hy : y0 = nI j) (hi : i < 2 ^ 31) (hj : j < 2 ^ 31) (kt : i < j → gW p l e R s m args below meth c HP A ck cn Q x tgt lv st) (kf : j ≤ i → gW p l e R s m args below meth c HP A ck cn Q x pc' lv st) : gW p l e R s m args below meth c HP A ck cn Q x pc lv (.int y0 :: .int x0 :: st) := by
  subst hx hy
  have e1 := nI_eq hi hj
  have e2 := nI_ltI hi hj
  have e3 := nI_ltI hj hi
  have e4 := nI_leI hi hj
  have e5 := nI_leI hj hi
  refine gx_icmp_lt hX hdg ht hp (fun q => kt ?_) (fun q => kf ?_)
  all_goals first | exact e1.mp q | exact e2.mp q | exact e3.mp q | exact e4.mp q | exact e5.mp q | (simp only [e1] at q; omega) | (simp only [e2] at q; omega) | (simp only [e3] at q; omega) | (simp only [e4] at q; omega) | (simp only [e5] at q; omega)
theorem gx_nat_ge (hX : gX p c cc nL) {x0 y0 : Int32} {i j : Nat} {off : Int} {tgt : Nat} (hdg : decode cc pc = .ok (.if_icmp .ge off, 3)) (ht : (pc : Int) + off = (tgt : Int)) (hp : pc + 3 = pc') (hx : x0 = nI i) (hy : y0 = nI j) (hi : i < 2 ^ 31) (hj : j < 2 ^ 31) (kt : j ≤ i → gW p l e R s m args below meth c HP A ck cn Q x tgt lv st) (kf : i < j → gW p l e R s m args below meth c HP A ck cn Q x pc' lv st) : gW p l e R s m args below meth c HP A ck cn Q x pc lv (.int y0 :: .int x0 :: st) := by
  subst hx hy
  have e1 := nI_eq hi hj
  have e2 := nI_ltI hi hj
  have e3 := nI_ltI hj hi
  have e4 := nI_leI hi hj
  have e5 := nI_leI hj hi
  refine gx_icmp_ge hX hdg ht hp (fun q => kt ?_) (fun q => kf ?_)
  all_goals first | exact e1.mp q | exact e2.mp q | exact e3.mp q | exact e4.mp q | exact e5.mp q | (simp only [e1] at q; omega) | (simp only [e2] at q; omega) | (simp only [e3] at q; omega) | (simp only [e4] at q; omega) | (simp only [e5] at q; omega)
theorem gx_nat_gt (hX : gX p c cc nL) {x0 y0 : Int32} {i j : Nat} {off : Int} {tgt : Nat} (hdg : decode cc pc = .ok (.if_icmp .gt off, 3)) (ht : (pc : Int) + off = (tgt : Int)) (hp : pc + 3 = pc') (hx : x0 = nI i) (hy : y0 = nI j) (hi : i < 2 ^ 31) (hj : j < 2 ^ 31) (kt : j < i → gW p l e R s m args below meth c HP A ck cn Q x tgt lv st) (kf : i ≤ j → gW p l e R s m args below meth c HP A ck cn Q x pc' lv st) : gW p l e R s m args below meth c HP A ck cn Q x pc lv (.int y0 :: .int x0 :: st) := by
  subst hx hy
  have e1 := nI_eq hi hj
  have e2 := nI_ltI hi hj
  have e3 := nI_ltI hj hi
  have e4 := nI_leI hi hj
  have e5 := nI_leI hj hi
  refine gx_icmp_gt hX hdg ht hp (fun q => kt ?_) (fun q => kf ?_)
  all_goals first | exact e1.mp q | exact e2.mp q | exact e3.mp q | exact e4.mp q | exact e5.mp q | (simp only [e1] at q; omega) | (simp only [e2] at q; omega) | (simp only [e3] at q; omega) | (simp only [e4] at q; omega) | (simp only [e5] at q; omega)
theorem gx_nat_le (hX : gX p c cc nL) {x0 y0 : Int32} {i j : Nat} {off : Int} {tgt : Nat} (hdg : decode cc pc = .ok (.if_icmp .le off, 3)) (ht : (pc : Int) + off = (tgt : Int)) (hp : pc + 3 = pc') (hx : x0 = nI i) (hy : y0 = nI j) (hi : i < 2 ^ 31) (hj : j < 2 ^ 31) (kt : i ≤ j → gW p l e R s m args below meth c HP A ck cn Q x tgt lv st) (kf : j < i → gW p l e R s m args below meth c HP A ck cn Q x pc' lv st) : gW p l e R s m args below meth c HP A ck cn Q x pc lv (.int y0 :: .int x0 :: st) := by
  subst hx hy
  have e1 := nI_eq hi hj
  have e2 := nI_ltI hi hj
  have e3 := nI_ltI hj hi
  have e4 := nI_leI hi hj
  have e5 := nI_leI hj hi
  refine gx_icmp_le hX hdg ht hp (fun q => kt ?_) (fun q => kf ?_)
  all_goals first | exact e1.mp q | exact e2.mp q | exact e3.mp q | exact e4.mp q | exact e5.mp q | (simp only [e1] at q; omega) | (simp only [e2] at q; omega) | (simp only [e3] at q; omega) | (simp only [e4] at q; omega) | (simp only [e5] at q; omega)
theorem gx_tableIn (hX : gX p c cc nL) {dflt lo hi : Int} {offs : Array Int} {len : Nat} {x0 : Int32} {off : Int} {tgt : Nat} (hdg : decode cc pc = .ok (.tableswitch dflt lo hi offs, len)) (k : Int32) (hx : x0 = k) (h1 : ¬ k.toInt < lo) (h2 : ¬ hi < k.toInt) (ho : offs[(k.toInt - lo).toNat]? = some off) (ht : (pc : Int) + off = (tgt : Int)) (kk : gW p l e R s m args below meth c HP A ck cn Q x tgt lv st) : gW p l e R s m args below meth c HP A ck cn Q x pc lv (.int x0 :: st) := by
  subst hx
  exact fun H locs ls g1 g2 g3 => lv_tableIn hX.1 hX.2.1 hdg h1 h2 ho ht (kk H locs ls g1 g2 g3)
theorem gx_tableOut (hX : gX p c cc nL) {dflt lo hi : Int} {offs : Array Int} {len : Nat} {x0 : Int32} {tgt : Nat} (hdg : decode cc pc = .ok (.tableswitch dflt lo hi offs, len)) (h : x0.toInt < lo ∨ hi < x0.toInt) (ht : (pc : Int) + dflt = (tgt : Int)) (kk : gW p l e R s m args below meth c HP A ck cn Q x tgt lv st) : gW p l e R s m args below meth c HP A ck cn Q x pc lv (.int x0 :: st) := fun H locs ls g1 g2 g3 => lv_tableOut hX.1 hX.2.1 hdg h ht (kk H locs ls g1 g2 g3)
end GW
