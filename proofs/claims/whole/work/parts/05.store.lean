/-! ===== the typed store: roles of the cells, ints, references that change, longs ===== -/
theorem gblt {a b : Nat} (h : Nat.blt a b = true) : a < b := Nat.le_of_ble_eq_true h
abbrev gS : Type := (Nat → Nat → Int32) × (Nat → Nat → Nat) × (Nat → Int64)
/-- roles; references that never change; what the machine calls the classes; the four array classes -/
abbrev gL : Type := (Nat → Nat) × (Nat → Nat → Nat) × va_G × ClassId × ClassId × ClassId × ClassId
def gK (Y : gL) (a : Nat) : Nat := Y.1 a
def gF (Y : gL) (a k : Nat) : Nat := Y.2.1 a k
def gD (Y : gL) : va_G := Y.2.2.1
def gTi (Y : gL) : ClassId := Y.2.2.2.1
def gTz (Y : gL) : ClassId := Y.2.2.2.2.1
def gTc (Y : gL) : ClassId := Y.2.2.2.2.2.1
def gTs (Y : gL) : ClassId := Y.2.2.2.2.2.2
def gTy (Y : gL) : List (ClassId × FieldType) := [(gTi Y, .int), (gTz Y, .boolean), (gTc Y, .object RX0), (gTs Y, .object RX2)]
/-- what lies at an address of a role -/
def gE (Y : gL) (f : Nat → Int32) (g : Nat → Nat) (j : Int64) (a : Nat) : Nat → Option va_E
  | 1 => some (.inr (3, [.ref (gF Y a 0), .ref (gF Y a 1), .int (f 2), .ref (gF Y a 3), .ref (gF Y a 4), .int (f 5)]))
  | 2 => some (.inr (1, [.ref (gF Y a 0), .ref (gF Y a 1), .ref (gF Y a 2), .ref (gF Y a 3), .ref (gF Y a 4), .ref (gF Y a 5), .int (f 6)]))
  | 3 => some (.inl (gTs Y, 4, .inr (.inr (.inr (.inr (fun k => some (g k)))))))
  | 4 => some (.inl (gTi Y, 3, .inl f))
  | 5 => some (.inl (gTi Y, 10, .inl f))
  | 6 => some (.inl (gTi Y, 10, .inl f))
  | 7 => some (.inl (gTi Y, 12, .inl f))
  | 8 => some (.inl (gTi Y, 12, .inl f))
  | 9 => some (.inl (gTi Y, 12, .inl f))
  | 10 => some (.inl (gTi Y, 12, .inl f))
  | 11 => some (.inr (2, [.ref (gF Y a 0), .int (f 1), .int (f 2), .int (f 3), .int (f 4), .ref (gF Y a 5), .int (f 6)]))
  | 12 => some (.inl (gTc Y, 12, .inr (.inr (.inr (.inr (fun k => some (g k)))))))
  | 13 => some (.inl (gTi Y, 12, .inl f))
  | 14 => some (.inr (0, [.int (f 0), .int (f 1), .int (f 2), .int (f 3), .int (f 4), .int (f 5), .int (f 6), .int (f 7), .int (f 8)]))
  | 15 => some (.inr (4, [.ref (gF Y a 0), .ref (gF Y a 1), .int (f 2), .ref (gF Y a 3), .ref (gF Y a 4), .ref (gF Y a 5), .ref (gF Y a 6), .ref (gF Y a 7), .int (f 8), .ref (gF Y a 9), .ref (gF Y a 10), .long j]))
  | 16 => some (.inl (gTi Y, 137, .inl f))
  | 17 => some (.inl (gTi Y, 548, .inl f))
  | 18 => some (.inl (gTi Y, 3, .inl f))
  | 19 => some (.inl (gTi Y, 12, .inl f))
  | 20 => some (.inl (gTi Y, 12, .inl f))
  | 21 => some (.inl (gTi Y, 12, .inl f))
  | 22 => some (.inl (gTi Y, 12, .inl f))
  | 23 => some (.inl (gTz Y, 12, .inl f))
  | 24 => some (.inl (gTi Y, 10, .inl f))
  | _ => none
def gEnt (Y : gL) (σ : gS) (a : Nat) : Option va_E := gE Y (σ.1 a) (σ.2.1 a) (σ.2.2 a) a (gK Y a)
def gP (Y : gL) (σ : gS) (H : Heap) : Prop := ∀ (a : Nat) (e : va_E), gEnt Y σ a = some e → va_at (gD Y) vwCl (a, e) H
def gA (Y : gL) : Nat → Prop := fun q => gK Y q ≠ 0
def uI (σ : gS) (a k : Nat) (v : Int32) : gS := (fun b j => if b = a ∧ j = k then v else σ.1 b j, σ.2)
def uG (σ : gS) (a k : Nat) (v : Nat) : gS := (σ.1, fun b j => if b = a ∧ j = k then v else σ.2.1 b j, σ.2.2)
def uJ (σ : gS) (a : Nat) (v : Int64) : gS := (σ.1, σ.2.1, fun b => if b = a then v else σ.2.2 b)
theorem uI_ne {σ : gS} {a k : Nat} {v : Int32} {b : Nat} (h : b ≠ a) : (uI σ a k v).1 b = σ.1 b := by funext j; simp [uI, h]
theorem uG_ne {σ : gS} {a k : Nat} {v : Nat} {b : Nat} (h : b ≠ a) : (uG σ a k v).2.1 b = σ.2.1 b := by funext j; simp [uG, h]
theorem gEnt_I {Y : gL} {σ : gS} {a k : Nat} {v : Int32} {b : Nat} (h : b ≠ a) : gEnt Y (uI σ a k v) b = gEnt Y σ b := by
  unfold gEnt
  rw [uI_ne h]
  rfl
theorem gEnt_G {Y : gL} {σ : gS} {a k : Nat} {v : Nat} {b : Nat} (h : b ≠ a) : gEnt Y (uG σ a k v) b = gEnt Y σ b := by
  unfold gEnt
  rw [uG_ne h]
  rfl
theorem gEnt_J {Y : gL} {σ : gS} {a : Nat} {v : Int64} {b : Nat} (h : b ≠ a) : gEnt Y (uJ σ a v) b = gEnt Y σ b := by
  unfold gEnt
  have e : (uJ σ a v).2.2 b = σ.2.2 b := by simp [uJ, h]
  rw [e]
  rfl
theorem gP_one {Y : gL} {σ : gS} {H : Heap} (hP : gP Y σ H) {a k : Nat} {e : va_E} (hk : gK Y a = k) (he : gE Y (σ.1 a) (σ.2.1 a) (σ.2.2 a) a k = some e) : va_P (gD Y) vwCl [(a, e)] H := by
  intro i q hq
  have hz : i < 1 := (List.getElem?_eq_some_iff.mp hq).1
  rw [show i = 0 by omega] at hq
  cases hq
  exact hP a e (by unfold gEnt; rw [hk]; exact he)
theorem gP_lt {Y : gL} {σ : gS} {H : Heap} (hP : gP Y σ H) {a k : Nat} {e : va_E} (hk : gK Y a = k) (he : gE Y (σ.1 a) (σ.2.1 a) (σ.2.2 a) a k = some e) : a < H.size := (hP a e (by unfold gEnt; rw [hk]; exact he)).lt
/-- the heap changed at one address -/
theorem gP_set {Y : gL} {σ τ : gS} {H H1 : Heap} {a k : Nat} {e : va_E} (hP : gP Y σ H) (hk : gK Y a = k) (he : gE Y (τ.1 a) (τ.2.1 a) (τ.2.2 a) a k = some e) (hne : ∀ b, b ≠ a → gEnt Y τ b = gEnt Y σ b) (h1 : va_at (gD Y) vwCl (a, e) H1) (oq : ∀ q : Nat, q ≠ a → H1[q]? = H[q]?) : gP Y τ H1 := by
  intro b e' hb
  by_cases h : b = a
  · subst h
    unfold gEnt at hb
    rw [hk, he] at hb
    cases hb
    exact h1
  · rw [hne b h] at hb
    exact (hP b e' hb).kept (oq b h)
/-- words of the tables that no list of words holds: private members of a nest mate -/
def gNest : List Cond := [.methodLinkNest RX1 72 yX3_isVariable "ReactiveNotebook", .methodLinkNest RX1 59 yX3_isVariableOperand "ReactiveNotebook", .methodLinkNest RX1 88 yX3_contains "ReactiveNotebook", .methodLinkNest RX2 37 yX0_init "ReactiveNotebook"]
/-- what the machine's tables say -/
def gB (Y : gL) (U : State) : Prop := va_K (gD Y) vwCl (gTy Y) U ∧ (∀ w ∈ gNest, va_Nw w U) ∧ va_AO RX0 U ∧ va_AO RX2 U
theorem gNest_moved {s U : State} (hW : s.WarmedH U.vm) (h : ∀ w ∈ gNest, va_Nw w s) : ∀ w ∈ gNest, va_Nw w U := by
  intro w hw
  have h1 := h w hw
  simp only [gNest, List.mem_cons, List.not_mem_nil, or_false] at hw
  rcases hw with rfl | rfl | rfl | rfl <;> exact va_Nw.warmM hW h1
theorem gB_moved {Y : gL} {s U : State} (hW : s.WarmedH U.vm) (h : gB Y s) : gB Y U := ⟨va_K.moved hW.alike h.1, gNest_moved hW h.2.1, va_AO.moved hW.alike h.2.2.1, va_AO.moved hW.alike h.2.2.2⟩
theorem gB_calling {Y : gL} {U : State} {g : JFrame} {mk : MethodId} {a : Array Value} (h : gB Y U) : gB Y (U.calling g mk a) := ⟨va_K.moved (u := U) (U := U.calling g mk a) (Vm.Alike.refl U.vm) h.1, fun w hw => va_Nw.same (u := U) (U := U.calling g mk a) (by
  simp only [gNest, List.mem_cons, List.not_mem_nil, or_false] at hw
  rcases hw with rfl | rfl | rfl | rfl <;> rfl) rfl (h.2.1 w hw), va_AO.moved (u := U) (U := U.calling g mk a) (Vm.Alike.refl U.vm) h.2.2.1, va_AO.moved (u := U) (U := U.calling g mk a) (Vm.Alike.refl U.vm) h.2.2.2⟩
/-- a method's end: its answer and the store behind it -/
def gQ (Y : gL) (Qr : Option Value → gS → Prop) : Array Value → State → Outcome → State → Prop := fun _ st o t => (∃ (v : Option Value) (τ : gS), o = .returned v ∧ Qr v τ ∧ gP Y τ t.heap) ∧ va_F (gA Y) st t
/-- a method's contract that makes no cell -/
def gM (l : Launch) (y : MethodName) (cc : ByteArray) (nL : Nat) (ret : Option FieldType) (rm : Room) (Y : gL) (al : List Value) (σ : gS) (Qr : Option Value → gS → Prop) : Prop :=
  Met l y (Cond.code y cc nL ret :: wsL_law) rm (va_Pc al (fun U => gP Y σ U.heap ∧ gB Y U)) (gQ Y Qr) 0 0 (gA Y)
def gI (post : Int32 → gS → Prop) : Option Value → gS → Prop := fun v τ => ∃ r : Int32, v = some (.int r) ∧ post r τ
def gJ (post : Int64 → gS → Prop) : Option Value → gS → Prop := fun v τ => ∃ r : Int64, v = some (.long r) ∧ post r τ
def gV (post : gS → Prop) : Option Value → gS → Prop := fun v τ => v = none ∧ post τ
/-- what a walk of a method's body stands on -/
def gOK (p : Program) (s : State) (m : MethodId) (args : Array Value) (meth : Method) (c : Code) (Y : gL) (cc : ByteArray) (nL : Nat) (own : String) (ret : Option FieldType) : Prop :=
  gX p c cc nL ∧ s.vm.findClass own = some m.cls ∧ (∀ w ∈ wsL_law, w.before args s = true) ∧ gB Y s ∧ meth.locks = false ∧ meth.sig.returnType = ret
/-- the world of such a walk -/
abbrev gG (p : Program) (l : Launch) (e : Env) (R : Room) (s : State) (m : MethodId) (args : Array Value) (below : List Frame) (meth : Method) (c : Code) (Y : gL) (Qr : Option Value → gS → Prop) (σ : gS) (pc : Nat) (lv : List (Nat × Value)) (st : List Value) : Prop :=
  gW p l e R s m args below meth c (gP Y) (gA Y) 0 0 (MQ below (gQ Y Qr) args s 0 0 (gA Y)) σ pc lv st
theorem gM.of {l : Launch} {y : MethodName} {cc : ByteArray} {nL : Nat} {ret : Option FieldType} {rm : Room} {Y : gL} {al : List Value} {σ : gS} {Qr : Option Value → gS → Prop} (hy : plainName y.cls = true) (hn : Nat.ble (lg_sl al).length nL = true)
    (body : ∀ (p : Program) (e : Env) (s : State) (m : MethodId) (args : Array Value) (below : List Frame) (meth : Method) (c : Code), gOK p s m args meth c Y cc nL y.cls ret → gG p l e rm s m args below meth c Y Qr σ 0 (lv_args 0 al) []) : gM l y cc nL ret rm Y al σ Qr := by
  refine Met.ofW (cc := cc) (maxL := nL) (ret := ret) hy rfl ?_
  intro p e s m args below meth c s₁ B hml hv
  obtain ⟨rfl, hP, hB⟩ := hv
  have hts := atoms_spec (ws := Cond.code y cc nL ret :: wsL_law) B.pre
  have h := body p e s m al.toArray below meth c ⟨⟨B.exec, B.bytes, hml⟩, findClass_of_methodNamed B.named, fun w hw => hts w (List.mem_cons_of_mem _ hw), hB, B.notSynchronized, B.returns⟩
  have hl := lv_entry al (n := nL) (Nat.le_of_ble_eq_true hn)
  rw [lg_entry_eq]
  exact h s.heap [] _ hP va_S.rf (by rw [hml]; exact hl)
/-- what the tables say of a method that is called -/
def gYV (y : MethodName) (cc : ByteArray) (nL : Nat) (ret : Option FieldType) (n : Nat) : Prop := Cond.code y cc nL ret ∈ wsL_law ∧ Cond.instanceMethod y ∈ wsL_law ∧ Cond.selects y.cls y y ∈ wsL_law ∧ Cond.initialized y.cls ∈ wsL_law ∧ (y.cls ≠ "java/lang/invoke/MethodHandle" ∧ y.cls ≠ "java/lang/invoke/VarHandle" ∧ (parseMethodDescriptor y.desc).map (fun d => d.parameters.length) = some n)
def gYS (y : MethodName) (cc : ByteArray) (nL : Nat) (ret : Option FieldType) (n : Nat) : Prop := Cond.code y cc nL ret ∈ wsL_law ∧ Cond.static y ∈ wsL_law ∧ Cond.initialized y.cls ∈ wsL_law ∧ (y.cls ≠ "java/lang/invoke/MethodHandle" ∧ y.cls ≠ "java/lang/invoke/VarHandle" ∧ (parseMethodDescriptor y.desc).map (fun d => d.parameters.length) = some n)
theorem wsL_all : GoodIn wsL_law wsL_law := fun w h => ⟨h, (wsL_law_gi w h).2⟩
theorem wsL_code {y : MethodName} {cc : ByteArray} {nL : Nat} {ret : Option FieldType} (h : Cond.code y cc nL ret ∈ wsL_law) : GoodIn wsL_law (Cond.code y cc nL ret :: wsL_law) := fun w hw => (List.mem_cons.mp hw).elim (fun e => by rw [e]; exact wsL_all _ h) (wsL_all w)
/-- a callee's room within its caller's -/
def gRmOK (rm R : Room) (nL2 ck cn : Nat) : Bool := Nat.ble (rm.frames + 1) R.frames && (Nat.ble (8 + (nL2 + 11) + rm.locals) R.locals && (Nat.beq rm.cells 0 && (Nat.beq rm.slots 0 && (Nat.ble ck R.cells && Nat.ble cn R.slots))))
theorem gRmOK_spec {rm R : Room} {nL2 ck cn : Nat} (h : gRmOK rm R nL2 ck cn = true) : rm.frames + 1 ≤ R.frames ∧ 8 + (nL2 + 11) + rm.locals ≤ R.locals ∧ rm.cells = 0 ∧ rm.slots = 0 ∧ ck ≤ R.cells ∧ cn ≤ R.slots := by
  unfold gRmOK at h
  simp only [Bool.and_eq_true] at h
  exact ⟨Nat.le_of_ble_eq_true h.1, Nat.le_of_ble_eq_true h.2.1, Nat.eq_of_beq_eq_true h.2.2.1, Nat.eq_of_beq_eq_true h.2.2.2.1, Nat.le_of_ble_eq_true h.2.2.2.2.1, Nat.le_of_ble_eq_true h.2.2.2.2.2⟩
abbrev gRm (f n : Nat) : Room := { frames := f, cells := 0, slots := 0, locals := n }
section GR
variable {p : Program} {l : Launch} {e : Env} {R : Room} {s : State} {m : MethodId} {args : Array Value} {below : List Frame} {meth : Method} {c : Code} {ck cn : Nat} {Q : State → Prop} {σ : gS} {pc pc' : Nat} {lv : List (Nat × Value)} {st st0 : List Value} {cc : ByteArray} {nL : Nat} {Y : gL} {own : String} {ret : Option FieldType} {Qr : Option Value → gS → Prop}
theorem gx_get (hC : gOK p s m args meth c Y cc nL own ret) (j : Nat) {a k ci N idx : Nat} {v : Value} {fs : List Value} {C ref : String} {T : u_T} (hin : ∀ w ∈ u_ws C T N, w ∈ wsL_law) (hlk : Cond.fieldLink own idx ref (T j).2.1 (T j).2.2.1 ∈ wsL_law) (href : ref = (T j).1) (hk : gK Y a = k) (he : gE Y (σ.1 a) (σ.2.1 a) (σ.2.2 a) a k = some (.inr (ci, fs))) (hc : vwCl[ci]? = some (C, T, N)) (hj : Nat.blt j N = true) (hv : fs[j]? = some v) (hdg : decode cc pc = .ok (.getfield idx, 3)) (hp : pc + 3 = pc') (kk : gW p l e R s m args below meth c (gP Y) (gA Y) ck cn Q σ pc' lv (v :: st)) : gW p l e R s m args below meth c (gP Y) (gA Y) ck cn Q σ pc lv (.ref a :: st) := by
  subst hp
  obtain ⟨hX, hown, hts, hB, -, -⟩ := hC
  intro H locs ls h1 h2 h3
  exact va_get hX.1 hX.2.1 hts hin hown hB.1 (gP_one h1 hk he) 0 rfl hc j (gblt hj) (hts _ hlk) (fun _ h9 => by rw [href]; exact h9) hv hdg (kk H locs ls h1 h2 h3)
theorem gx_put (hC : gOK p s m args meth c Y cc nL own ret) (j : Nat) {τ : gS} {a k ci N idx : Nat} {v : Value} {fs : List Value} {C ref : String} {T : u_T} {ty : FieldType} {ty0 : Nat → FieldType} (hin : ∀ w ∈ u_ws C T N, w ∈ wsL_law) (hty : ∀ k, k < N → parseFieldDescriptor (T k).2.2.1 = some (ty0 k)) (hnm : ∀ a, a < N → ∀ b, b < N → a ≠ b → (T a).2.1 ≠ (T b).2.1) (hlk : Cond.fieldLink own idx ref (T j).2.1 (T j).2.2.1 ∈ wsL_law) (href : ref = (T j).1) (hk : gK Y a = k) (hk0 : Nat.blt 0 k = true) (he : gE Y (σ.1 a) (σ.2.1 a) (σ.2.2 a) a k = some (.inr (ci, fs))) (he1 : gE Y (τ.1 a) (τ.2.1 a) (τ.2.2 a) a k = some (.inr (ci, fs.set j v))) (hne : ∀ b, b ≠ a → gEnt Y τ b = gEnt Y σ b) (hc : vwCl[ci]? = some (C, T, N)) (hj : Nat.blt j N = true) (hjl : Nat.blt j fs.length = true) (hfin : (T j).2.2.2 = false) (hd : ty0 j = ty) (hn : narrow ty v = v) (hfit : fits ty v = true) (hdg : decode cc pc = .ok (.putfield idx, 3)) (hp : pc + 3 = pc') (kk : gW p l e R s m args below meth c (gP Y) (gA Y) ck cn Q τ pc' lv st) : gW p l e R s m args below meth c (gP Y) (gA Y) ck cn Q σ pc lv (v :: .ref a :: st) := by
  subst hp
  obtain ⟨hX, hown, hts, hB, -, -⟩ := hC
  have hj' : j < N := gblt hj
  have hjl' : j < fs.length := gblt hjl
  have hd' : parseFieldDescriptor (T j).2.2.1 = some ty := by rw [← hd]; exact hty j hj'
  intro H locs ls h1 h2 h3
  have hP := gP_one h1 hk he
  have hap := va_apart (own := own) hts hin ty0 hty hnm hB.1 hc
  obtain ⟨r, hr1, cell, q1, q2, q3, q4⟩ := hP 0 _ rfl
  have hr : r = (C, T, N) := Option.some.inj (hr1.symm.trans hc)
  subst hr
  obtain ⟨hS, hfc, kC, hkC, hkind⟩ := hB.1.1 ci _ hc
  obtain ⟨cf, kf, fi, f, hi, hsl⟩ := hS j hj'
  have hlay := hts _ (hin _ (u_in_lay hj'))
  unfold u_lay at hlay
  rw [if_neg (by rw [hfin]; decide)] at hlay
  have hst := (u_facts hfc hkC (u_lays hts hin hj') hi).1
  have h6 := u_store hfc hkC hkind hlay hi hd' hn hfit
  refine W.putK hX.1 hX.2.1 (f := f) ⟨hown, hts _ hlk, ⟨_, _, _, by rw [href]; exact hi⟩, hst⟩ (by rw [q2]; exact h6) q1 q3 (by rw [hsl]; exact k2_hasslot (q4 j hj')) rfl rfl hdg fun H' e1 e2 e3 => ?_
  rw [hsl] at e1 ⊢
  refine kk H' _ ls (gP_set h1 hk he1 hne ⟨_, hc, t_OB.to (V := updV (vp_V fs) j v) ⟨_, e1, q2, q3, t_set q4 hap hj' v⟩ (fun i _ => vp_updV_set hjl' v i)⟩ e3) (h2.put e2 e3 ?_) h3
  show gK Y a ≠ 0
  rw [hk]
  have : 0 < k := gblt hk0
  omega
theorem gx_iald (hC : gOK p s m args meth c Y cc nL own ret) {a k n i : Nat} {x : Int32} (hk : gK Y a = k) (he : gE Y (σ.1 a) (σ.2.1 a) (σ.2.2 a) a k = some (.inl (gTi Y, n, .inl (σ.1 a)))) (hx : x = nI i) (hi : i < n) (hn : Nat.blt n 1000 = true) (hdg : decode cc pc = .ok (.iaload, 1)) (hp : pc + 1 = pc') (kk : gW p l e R s m args below meth c (gP Y) (gA Y) ck cn Q σ pc' lv (.int (σ.1 a i) :: st)) : gW p l e R s m args below meth c (gP Y) (gA Y) ck cn Q σ pc lv (.int x :: .ref a :: st) := by
  subst hp hx
  obtain ⟨hX, hown, hts, hB, -, -⟩ := hC
  have hn' : n < 1000 := gblt hn
  intro H locs ls h1 h2 h3
  have h := kk H locs ls h1 h2 h3
  rw [← nI_clamp (n := i) (by omega)] at h
  exact va_iald hX.1 hX.2.1 hB.1 (gP_one h1 hk he) 0 0 rfl rfl (vp_in_nI hi (by omega)) hdg h
theorem gx_zald (hC : gOK p s m args meth c Y cc nL own ret) {a k n i : Nat} {x : Int32} (hk : gK Y a = k) (he : gE Y (σ.1 a) (σ.2.1 a) (σ.2.2 a) a k = some (.inl (gTz Y, n, .inl (σ.1 a)))) (hx : x = nI i) (hi : i < n) (hn : Nat.blt n 1000 = true) (hdg : decode cc pc = .ok (.baload, 1)) (hp : pc + 1 = pc') (kk : gW p l e R s m args below meth c (gP Y) (gA Y) ck cn Q σ pc' lv (.int (σ.1 a i) :: st)) : gW p l e R s m args below meth c (gP Y) (gA Y) ck cn Q σ pc lv (.int x :: .ref a :: st) := by
  subst hp hx
  obtain ⟨hX, hown, hts, hB, -, -⟩ := hC
  have hn' : n < 1000 := gblt hn
  intro H locs ls h1 h2 h3
  have h := kk H locs ls h1 h2 h3
  rw [← nI_clamp (n := i) (by omega)] at h
  exact va_zald hX.1 hX.2.1 hB.1 (gP_one h1 hk he) 0 1 rfl rfl (vp_in_nI hi (by omega)) hdg h
theorem gx_aaldc (hC : gOK p s m args meth c Y cc nL own ret) {a k n i : Nat} {x : Int32} (hk : gK Y a = k) (he : gE Y (σ.1 a) (σ.2.1 a) (σ.2.2 a) a k = some (.inl (gTc Y, n, .inr (.inr (.inr (.inr (fun j => some (σ.2.1 a j)))))))) (hx : x = nI i) (hi : i < n) (hn : Nat.blt n 1000 = true) (hdg : decode cc pc = .ok (.aaload, 1)) (hp : pc + 1 = pc') (kk : gW p l e R s m args below meth c (gP Y) (gA Y) ck cn Q σ pc' lv (.ref (σ.2.1 a i) :: st)) : gW p l e R s m args below meth c (gP Y) (gA Y) ck cn Q σ pc lv (.int x :: .ref a :: st) := by
  subst hp hx
  obtain ⟨hX, hown, hts, hB, -, -⟩ := hC
  have hn' : n < 1000 := gblt hn
  intro H locs ls h1 h2 h3
  have h := kk H locs ls h1 h2 h3
  rw [← nI_clamp (n := i) (by omega)] at h
  exact va_aldq (C := RX0) hX.1 hX.2.1 hB.1 (gP_one h1 hk he) 0 2 rfl rfl (vp_in_nI hi (by omega)) hdg h
theorem gx_aalds (hC : gOK p s m args meth c Y cc nL own ret) {a k n i : Nat} {x : Int32} (hk : gK Y a = k) (he : gE Y (σ.1 a) (σ.2.1 a) (σ.2.2 a) a k = some (.inl (gTs Y, n, .inr (.inr (.inr (.inr (fun j => some (σ.2.1 a j)))))))) (hx : x = nI i) (hi : i < n) (hn : Nat.blt n 1000 = true) (hdg : decode cc pc = .ok (.aaload, 1)) (hp : pc + 1 = pc') (kk : gW p l e R s m args below meth c (gP Y) (gA Y) ck cn Q σ pc' lv (.ref (σ.2.1 a i) :: st)) : gW p l e R s m args below meth c (gP Y) (gA Y) ck cn Q σ pc lv (.int x :: .ref a :: st) := by
  subst hp hx
  obtain ⟨hX, hown, hts, hB, -, -⟩ := hC
  have hn' : n < 1000 := gblt hn
  intro H locs ls h1 h2 h3
  have h := kk H locs ls h1 h2 h3
  rw [← nI_clamp (n := i) (by omega)] at h
  exact va_aldq (C := RX2) hX.1 hX.2.1 hB.1 (gP_one h1 hk he) 0 3 rfl rfl (vp_in_nI hi (by omega)) hdg h
theorem gx_iast (hC : gOK p s m args meth c Y cc nL own ret) {a k n i : Nat} {x v : Int32} (hk : gK Y a = k) (hk0 : Nat.blt 0 k = true) (he : gE Y (σ.1 a) (σ.2.1 a) (σ.2.2 a) a k = some (.inl (gTi Y, n, .inl (σ.1 a)))) (he1 : gE Y ((uI σ a i v).1 a) ((uI σ a i v).2.1 a) ((uI σ a i v).2.2 a) a k = some (.inl (gTi Y, n, .inl ((uI σ a i v).1 a)))) (hx : x = nI i) (hi : i < n) (hn : Nat.blt n 1000 = true) (hdg : decode cc pc = .ok (.iastore, 1)) (hp : pc + 1 = pc') (kk : gW p l e R s m args below meth c (gP Y) (gA Y) ck cn Q (uI σ a i v) pc' lv st) : gW p l e R s m args below meth c (gP Y) (gA Y) ck cn Q σ pc lv (.int v :: .int x :: .ref a :: st) := by
  subst hp hx
  obtain ⟨hX, hown, hts, hB, -, -⟩ := hC
  have hn' : n < 1000 := gblt hn
  intro H locs ls h1 h2 h3
  have hP := gP_one h1 hk he
  have hin : vp_in (nI i) n := vp_in_nI hi (by omega)
  refine W.iast hX.1 hX.2.1 (hP 0 _ rfl) ((hB.1.2 0 _ rfl).1 n (fun j => .int (σ.1 a j))) (fun q => by cases q) (by show ¬ (nI i < 0 ∨ (arrV _ _ _).slots.size ≤ _); rw [arrV_size]; exact hin) rfl rfl hdg fun H1 e z oq => ?_
  refine kk H1 _ ls (gP_set h1 hk he1 (fun b hb => gEnt_I hb) ?_ oq) (h2.put z oq ?_) h3
  · show H1[a]? = some (vp_cell _ _)
    rw [e]
    rw [vp_cell_i, vp_cell_i, arrV_store]
    congr 2
    funext q
    rw [nI_clamp (n := i) (by omega)]
    by_cases hq : q = i
    · subst hq
      simp [updV, uI]
    · simp [updV, uI, hq]
  · show gK Y a ≠ 0
    rw [hk]
    have : 0 < k := gblt hk0
    omega
theorem gx_zast (hC : gOK p s m args meth c Y cc nL own ret) {a k n i : Nat} {x v : Int32} (hk : gK Y a = k) (hk0 : Nat.blt 0 k = true) (he : gE Y (σ.1 a) (σ.2.1 a) (σ.2.2 a) a k = some (.inl (gTz Y, n, .inl (σ.1 a)))) (he1 : gE Y ((uI σ a i v).1 a) ((uI σ a i v).2.1 a) ((uI σ a i v).2.2 a) a k = some (.inl (gTz Y, n, .inl ((uI σ a i v).1 a)))) (hv : narrow .boolean (.int v) = .int v) (hx : x = nI i) (hi : i < n) (hn : Nat.blt n 1000 = true) (hdg : decode cc pc = .ok (.bastore, 1)) (hp : pc + 1 = pc') (kk : gW p l e R s m args below meth c (gP Y) (gA Y) ck cn Q (uI σ a i v) pc' lv st) : gW p l e R s m args below meth c (gP Y) (gA Y) ck cn Q σ pc lv (.int v :: .int x :: .ref a :: st) := by
  subst hp hx
  obtain ⟨hX, hown, hts, hB, -, -⟩ := hC
  have hn' : n < 1000 := gblt hn
  intro H locs ls h1 h2 h3
  have hP := gP_one h1 hk he
  have hin : vp_in (nI i) n := vp_in_nI hi (by omega)
  refine W.zast hX.1 hX.2.1 (hP 0 _ rfl) ((hB.1.2 1 _ rfl).1 n (fun j => .int (σ.1 a j))) (fun q => by cases q) (by show ¬ (nI i < 0 ∨ (arrV _ _ _).slots.size ≤ _); rw [arrV_size]; exact hin) rfl rfl hdg fun H1 e z oq => ?_
  refine kk H1 _ ls (gP_set h1 hk he1 (fun b hb => gEnt_I hb) ?_ oq) (h2.put z oq ?_) h3
  · show H1[a]? = some (vp_cell _ _)
    rw [e, hv]
    rw [vp_cell_i, vp_cell_i, arrV_store]
    congr 2
    funext q
    rw [nI_clamp (n := i) (by omega)]
    by_cases hq : q = i
    · subst hq
      simp [updV, uI]
    · simp [updV, uI, hq]
  · show gK Y a ≠ 0
    rw [hk]
    have : 0 < k := gblt hk0
    omega
theorem gx_aast (hC : gOK p s m args meth c Y cc nL own ret) (t0 : Nat) {a k kv n i v ci N : Nat} {x : Int32} {fs : List Value} {C : String} {T : u_T} {tA : ClassId} (hk : gK Y a = k) (hk0 : Nat.blt 0 k = true) (he : gE Y (σ.1 a) (σ.2.1 a) (σ.2.2 a) a k = some (.inl (tA, n, .inr (.inr (.inr (.inr (fun j => some (σ.2.1 a j)))))))) (he1 : gE Y ((uG σ a i v).1 a) ((uG σ a i v).2.1 a) ((uG σ a i v).2.2 a) a k = some (.inl (tA, n, .inr (.inr (.inr (.inr (fun j => some ((uG σ a i v).2.1 a j)))))))) (ht : (gTy Y)[t0]? = some (tA, .object C)) (hkv : gK Y v = kv) (hev : gE Y (σ.1 v) (σ.2.1 v) (σ.2.2 v) v kv = some (.inr (ci, fs))) (hc : vwCl[ci]? = some (C, T, N)) (hx : x = nI i) (hi : i < n) (hn : Nat.blt n 1000 = true) (hdg : decode cc pc = .ok (.aastore, 1)) (hp : pc + 1 = pc') (kk : gW p l e R s m args below meth c (gP Y) (gA Y) ck cn Q (uG σ a i v) pc' lv st) : gW p l e R s m args below meth c (gP Y) (gA Y) ck cn Q σ pc lv (.ref v :: .int x :: .ref a :: st) := by
  subst hp hx
  obtain ⟨hX, hown, hts, hB, -, -⟩ := hC
  have hn' : n < 1000 := gblt hn
  intro H locs ls h1 h2 h3
  have hP := gP_one h1 hk he
  have hPv := gP_one h1 hkv hev
  have hin : vp_in (nI i) n := vp_in_nI hi (by omega)
  have hcl : (nI i).toNatClampNeg = i := nI_clamp (by omega)
  obtain ⟨r', hr', cellV, g1, g2, g3, -⟩ := hPv 0 _ rfl
  have hcls := (hB.1.1 ci _ hc).2
  obtain ⟨kA, comp, k1, k2, k3, -⟩ := (hB.1.2 t0 _ ht).2
  have hcomp : comp = (gD Y).1 ci := Option.some.inj (k3.symm.trans hcls.1)
  subst hcomp
  obtain ⟨kC, hkC, -⟩ := hcls.2
  refine W.aast hX.1 hX.2.1 (hP 0 _ rfl) (fun q h => by cases h) (fun h => by cases h) k1 k2 rfl hkC ⟨fun q => hin (Or.inl q), by show _ < (arrV _ _ _).slots.size; rw [arrV_size, hcl]; exact hi⟩ g1 (fun q h => by rw [g3] at h; cases h) (by rw [g2]; exact hkC) (by rw [g2]; exact va_assign hcls) rfl rfl hdg fun H1 e z oq => ?_
  refine kk H1 _ ls (gP_set h1 hk he1 (fun b hb => gEnt_G hb) ?_ oq) (h2.put z oq ?_) h3
  · show H1[a]? = some (vp_cell _ _)
    rw [e]
    rw [vp_cell_q, vp_cell_q, arrV_store]
    congr 2
    funext q
    rw [hcl]
    by_cases hq : q = i
    · subst hq
      simp [updV, uG, va_rf]
    · simp [updV, uG, hq]
  · show gK Y a ≠ 0
    rw [hk]
    have : 0 < k := gblt hk0
    omega
theorem gx_ldc2 (hC : gOK p s m args meth c Y cc nL own ret) {A : Nat → Prop} {X : Type} {HP : X → Heap → Prop} {x : X} {idx : Nat} {v : Int64} (hw : Cond.constantLong own idx v ∈ wsL_law) (hdg : decode cc pc = .ok (.ldc2_w idx, 3)) (hp : pc + 3 = pc') (kk : gW p l e R s m args below meth c HP A ck cn Q x pc' lv (.long v :: st)) : gW p l e R s m args below meth c HP A ck cn Q x pc lv st := by
  subst hp
  exact fun H locs ls h1 h2 h3 => lv_ldc2 hC.1.1 hC.1.2.1 hC.2.1 (hC.2.2.1 _ hw) hdg (kk H locs ls h1 h2 h3)
theorem gx_ldcw (hC : gOK p s m args meth c Y cc nL own ret) {A : Nat → Prop} {X : Type} {HP : X → Heap → Prop} {x : X} {idx : Nat} {v : Int32} (hw : Cond.constant own idx v ∈ wsL_law) (hdg : decode cc pc = .ok (.ldc_w idx, 3)) (hp : pc + 3 = pc') (kk : gW p l e R s m args below meth c HP A ck cn Q x pc' lv (.int v :: st)) : gW p l e R s m args below meth c HP A ck cn Q x pc lv st := by
  subst hp
  exact fun H locs ls h1 h2 h3 => lv_ldcw hC.1.1 hC.1.2.1 hC.2.1 (hC.2.2.1 _ hw) hdg (kk H locs ls h1 h2 h3)
theorem gx_iret {post : Int32 → gS → Prop} (hC : gOK p s m args meth c Y cc nL own (some .int)) {v : Int32} (hdg : decode cc pc = .ok (.ireturn, 1)) (hq : post v σ) : gG p l e R s m args below meth c Y (gI post) σ pc lv [.int v] := by
  obtain ⟨hX, -, -, -, hlk, hr⟩ := hC
  intro H locs ls h1 h2 h3
  exact W.iret hX.1 hX.2.1 hr (fun t ht hW => ⟨⟨_, σ, rfl, ⟨v, rfl, hq⟩, by rw [ht]; exact h1⟩, h2.F ht⟩) h2.2.2 hdg (hlocks := hlk)
theorem gx_zret {post : Int32 → gS → Prop} (hC : gOK p s m args meth c Y cc nL own (some .boolean)) {v : Int32} (hv : narrow .boolean (.int v) = .int v) (hdg : decode cc pc = .ok (.ireturn, 1)) (hq : post v σ) : gG p l e R s m args below meth c Y (gI post) σ pc lv [.int v] := by
  obtain ⟨hX, -, -, -, hlk, hr⟩ := hC
  intro H locs ls h1 h2 h3
  exact W.zret hX.1 hX.2.1 hr hv (fun t ht hW => ⟨⟨_, σ, rfl, ⟨v, rfl, hq⟩, by rw [ht]; exact h1⟩, h2.F ht⟩) h2.2.2 hdg (hlocks := hlk)
theorem gx_lret {post : Int64 → gS → Prop} (hC : gOK p s m args meth c Y cc nL own (some .long)) {v : Int64} (hdg : decode cc pc = .ok (.lreturn, 1)) (hq : post v σ) : gG p l e R s m args below meth c Y (gJ post) σ pc lv [.long v] := by
  obtain ⟨hX, -, -, -, hlk, hr⟩ := hC
  intro H locs ls h1 h2 h3
  exact W.lret hX.1 hX.2.1 hr (fun t ht hW => ⟨⟨_, σ, rfl, ⟨v, rfl, hq⟩, by rw [ht]; exact h1⟩, h2.F ht⟩) h2.2.2 hdg (hlocks := hlk)
theorem gx_vret {post : gS → Prop} (hC : gOK p s m args meth c Y cc nL own none) (hdg : decode cc pc = .ok (.return_, 1)) (hq : post σ) : gG p l e R s m args below meth c Y (gV post) σ pc lv [] := by
  obtain ⟨hX, -, -, -, hlk, hr⟩ := hC
  intro H locs ls h1 h2 h3
  exact W.vret hX.1 hX.2.1 hr (fun t ht hW => ⟨⟨_, σ, rfl, ⟨rfl, hq⟩, by rw [ht]; exact h1⟩, h2.F ht⟩) h2.2.2 hdg (hlocks := hlk)
/-- behind a call: its end, and the caller's frame -/
theorem gx_run {mc ms : Nat} {a : Array Value} {Qc : Option Value → gS → Prop} {H : Heap} {locs : List Loc} {ls : Array Slot} {rest : List Value} {A : Nat → Prop} (hr : va_Run p l e R s m args below meth c H locs ck cn mc ms (F0 m pc ls st0) rest (gQ Y Qc a) (gA Y)) (hA : ∀ q, gA Y q → A q) (hS : va_S A s.heap H locs)
    (kk : ∀ (v : Option Value) (τ : gS) (H1 : Heap) (locs1 : List Loc), Qc v τ → gP Y τ H1 → va_S A s.heap H1 locs1 → H.size ≤ H1.size → (∀ q : Nat, q < H.size → ¬ gA Y q → H1[q]? = H[q]?) → W p l e R s m args below meth c H1 locs1 (ck + mc) (cn + ms) Q (F0 m (pc + 3) ls (v.toList ++ rest))) : W p l e R s m args below meth c H locs ck cn Q (F0 m pc ls st0) := by
  intro T hT X'
  obtain ⟨v, st₀, t, T', L, h0, X'', hL, e1, e2, ⟨⟨v', τ, hv, hq, hP⟩, hz, hk⟩, st⟩ := hr T hT X'
  cases hv
  rw [h0] at hz hk
  obtain ⟨t2, a1, b1⟩ := kk v τ T'.heap (locs ++ L) hq (by rw [e1]; exact hP)
    ⟨Nat.le_trans hS.1 (by rw [e1]; exact hz), fun q h1 h2 => by rw [e1, hk q (Nat.lt_of_lt_of_le h1 hS.1) (fun z => h2 (hA q z))]; exact hS.2.1 q h1 h2, fun q hq => by
      rcases List.mem_append.mp hq with h | h
      · exact hS.2.2 q h
      · exact hA _ (hL q h)⟩ (by rw [e1]; exact hz) (fun q h1 h2 => by rw [e1]; exact hk q h1 h2) T' rfl X''
  exact ⟨t2, st t2 a1, b1⟩
theorem gM_blind {Y : gL} {al : List Value} {σ : gS} : FrameBlind (va_Pc al (fun U => gP Y σ U.heap ∧ gB Y U)) := fun a U g mk q => ⟨q.1, q.2.1, gB_calling q.2.2⟩
theorem gx_callV (hC : gOK p s m args meth c Y cc nL own ret) {y : MethodName} {cc2 : ByteArray} {nL2 n idx b k ci N : Nat} {ret2 : Option FieldType} {rm : Room} {As : List Value} {Qc : Option Value → gS → Prop} {fs : List Value} {T : u_T} (hM : gM l y cc2 nL2 ret2 rm Y (.ref b :: As) σ Qc) (hy : gYV y cc2 nL2 ret2 n) (hlk : Cond.methodLink own idx y ∈ wsL_law) (hR : gRmOK rm R nL2 ck cn = true) (hk : gK Y b = k) (he : gE Y (σ.1 b) (σ.2.1 b) (σ.2.2 b) b k = some (.inr (ci, fs))) (hc : vwCl[ci]? = some (y.cls, T, N)) (hst : st0 = As.reverse ++ .ref b :: st) (hn : As.length = n) (hcat : Nat.ble (st.map fun v => v.category).sum 8 = true) (hdg : decode cc pc = .ok (.invokevirtual idx, 3)) (hp : pc + 3 = pc') (kk : ∀ (v : Option Value) (τ : gS), Qc v τ → gW p l e R s m args below meth c (gP Y) (gA Y) ck cn Q τ pc' lv (v.toList ++ st)) : gW p l e R s m args below meth c (gP Y) (gA Y) ck cn Q σ pc lv st0 := by
  subst hp hst
  obtain ⟨hX, hown, hts, hB, -, -⟩ := hC
  obtain ⟨y1, y2, y3, y4, y5⟩ := hy
  obtain ⟨r1, r2, r3, r4, r5, r6⟩ := gRmOK_spec hR
  have hcat' := Nat.le_of_ble_eq_true hcat
  intro H locs ls h1 h2 h3
  have cw : CallW R s args own y.cls idx y cc2 nL2 ret2 (Cond.code y cc2 nL2 ret2 :: wsL_law) rm 0 0 n := ⟨callB_of n hts (wsL_code y1) rfl r3 r4 (hts _ y4) (hts _ hlk) y5 ⟨r1, r2⟩, hts _ y2, hts _ y3⟩
  refine gx_run (mc := 0) (ms := 0) (va_runV (As := As) (rest := st) (b := b) ⟨hX.1, hX.2.1, hX.2.2, hown, hts⟩ hM cw ⟨gM_blind, va_recv hB.1 (gP_one h1 hk he) hc (q0 := 0) rfl, fun U hU hW => ⟨rfl, by rw [hU]; exact h1, gB_moved hW hB⟩⟩ rfl hn (by rw [← hX.2.2]; exact h3.1) rfl (lv_room hcat') hdg ⟨r5, r6⟩) (fun _ h => h) h2 (fun v τ H1 locs1 hq hP hS _ _ => kk v τ hq H1 locs1 ls hP hS h3)
theorem gx_callS (hC : gOK p s m args meth c Y cc nL own ret) {y : MethodName} {cc2 : ByteArray} {nL2 n idx : Nat} {ret2 : Option FieldType} {rm : Room} {As : List Value} {Qc : Option Value → gS → Prop} (hM : gM l y cc2 nL2 ret2 rm Y As σ Qc) (hy : gYS y cc2 nL2 ret2 n) (hlk : Cond.methodLink own idx y ∈ wsL_law) (hR : gRmOK rm R nL2 ck cn = true) (hst : st0 = As.reverse ++ st) (hn : As.length = n) (hcat : Nat.ble (st.map fun v => v.category).sum 8 = true) (hdg : decode cc pc = .ok (.invokestatic idx, 3)) (hp : pc + 3 = pc') (kk : ∀ (v : Option Value) (τ : gS), Qc v τ → gW p l e R s m args below meth c (gP Y) (gA Y) ck cn Q τ pc' lv (v.toList ++ st)) : gW p l e R s m args below meth c (gP Y) (gA Y) ck cn Q σ pc lv st0 := by
  subst hp hst
  obtain ⟨hX, hown, hts, hB, -, -⟩ := hC
  obtain ⟨y1, y2, y4, y5⟩ := hy
  obtain ⟨r1, r2, r3, r4, r5, r6⟩ := gRmOK_spec hR
  have hcat' := Nat.le_of_ble_eq_true hcat
  intro H locs ls h1 h2 h3
  have cw : CallB R s args own idx y cc2 nL2 ret2 (Cond.code y cc2 nL2 ret2 :: wsL_law) rm 0 0 n ∧ (Cond.static y).before args s = true := ⟨callB_of n hts (wsL_code y1) rfl r3 r4 (hts _ y4) (hts _ hlk) y5 ⟨r1, r2⟩, hts _ y2⟩
  refine gx_run (mc := 0) (ms := 0) (va_runS (As := As) (rest := st) ⟨hX.1, hX.2.1, hX.2.2, hown, hts⟩ hM cw ⟨gM_blind, fun U hU hW => ⟨rfl, by rw [hU]; exact h1, gB_moved hW hB⟩⟩ rfl hn (by rw [← hX.2.2]; exact h3.1) rfl (lv_room hcat') hdg ⟨r5, r6⟩) (fun _ h => h) h2 (fun v τ H1 locs1 hq hP hS _ _ => kk v τ hq H1 locs1 ls hP hS h3)
theorem gx_callSN (hC : gOK p s m args meth c Y cc nL own ret) {y : MethodName} {cc2 : ByteArray} {nL2 n idx : Nat} {ret2 : Option FieldType} {rm : Room} {As : List Value} {Qc : Option Value → gS → Prop} (hM : gM l y cc2 nL2 ret2 rm Y As σ Qc) (hy : gYS y cc2 nL2 ret2 n) (hlk : Cond.methodLinkNest own idx y "ReactiveNotebook" ∈ gNest) (hR : gRmOK rm R nL2 ck cn = true) (hst : st0 = As.reverse ++ st) (hn : As.length = n) (hcat : Nat.ble (st.map fun v => v.category).sum 8 = true) (hdg : decode cc pc = .ok (.invokestatic idx, 3)) (hp : pc + 3 = pc') (kk : ∀ (v : Option Value) (τ : gS), Qc v τ → gW p l e R s m args below meth c (gP Y) (gA Y) ck cn Q τ pc' lv (v.toList ++ st)) : gW p l e R s m args below meth c (gP Y) (gA Y) ck cn Q σ pc lv st0 := by
  subst hp hst
  obtain ⟨hX, hown, hts, hB, -, -⟩ := hC
  obtain ⟨y1, y2, y4, y5⟩ := hy
  obtain ⟨r1, r2, r3, r4, r5, r6⟩ := gRmOK_spec hR
  have hcat' := Nat.le_of_ble_eq_true hcat
  intro H locs ls h1 h2 h3
  have cw : va_CN R s args own idx y "ReactiveNotebook" cc2 nL2 ret2 (Cond.code y cc2 nL2 ret2 :: wsL_law) rm 0 0 n ∧ (Cond.static y).before args s = true ∧ True := ⟨va_cnB n hts (wsL_code y1) rfl r3 r4 (hB.2.1 _ hlk) (hts _ y4) y5 ⟨r1, r2⟩, hts _ y2, trivial⟩
  refine gx_run (mc := 0) (ms := 0) (va_runSN (As := As) (rest := st) ⟨hX.1, hX.2.1, hX.2.2, hown, hts⟩ hM cw ⟨gM_blind, fun U hU hW => ⟨rfl, by rw [hU]; exact h1, gB_moved hW hB⟩⟩ rfl hn (by rw [← hX.2.2]; exact h3.1) rfl (lv_room hcat') hdg ⟨r5, r6⟩) (fun _ h => h) h2 (fun v τ H1 locs1 hq hP hS _ _ => kk v τ hq H1 locs1 ls hP hS h3)
theorem gx_ki {post : Int32 → gS → Prop} (kk : ∀ (r : Int32) (τ : gS), post r τ → gW p l e R s m args below meth c (gP Y) (gA Y) ck cn Q τ pc lv (.int r :: st)) : ∀ (v : Option Value) (τ : gS), gI post v τ → gW p l e R s m args below meth c (gP Y) (gA Y) ck cn Q τ pc lv (v.toList ++ st) := by
  rintro v τ ⟨r, rfl, h⟩
  exact kk r τ h
theorem gx_kj {post : Int64 → gS → Prop} (kk : ∀ (r : Int64) (τ : gS), post r τ → gW p l e R s m args below meth c (gP Y) (gA Y) ck cn Q τ pc lv (.long r :: st)) : ∀ (v : Option Value) (τ : gS), gJ post v τ → gW p l e R s m args below meth c (gP Y) (gA Y) ck cn Q τ pc lv (v.toList ++ st) := by
  rintro v τ ⟨r, rfl, h⟩
  exact kk r τ h
theorem gx_kv {post : gS → Prop} (kk : ∀ (τ : gS), post τ → gW p l e R s m args below meth c (gP Y) (gA Y) ck cn Q τ pc lv st) : ∀ (v : Option Value) (τ : gS), gV post v τ → gW p l e R s m args below meth c (gP Y) (gA Y) ck cn Q τ pc lv (v.toList ++ st) := by
  rintro v τ ⟨rfl, h⟩
  exact kk τ h
end GR
