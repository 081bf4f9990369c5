/-! ===== the world of what is being made: a map of addresses, and how many there are ===== -/
abbrev mX : Type := (Nat → Option va_E) × Nat
def mP (Y : gL) (X : mX) (H : Heap) : Prop := H.size = X.2 ∧ ∀ (a : Nat) (e : va_E), X.1 a = some e → va_at (gD Y) vwCl (a, e) H
def mU (X : mX) (a : Nat) (e : va_E) : mX := (fun b => if b = a then some e else X.1 b, X.2)
def mN (X : mX) (e : va_E) : mX := (fun b => if b = X.2 then some e else X.1 b, X.2 + 1)
theorem mU_at {X : mX} {a : Nat} {e : va_E} : (mU X a e).1 a = some e := if_pos rfl
theorem mU_ne {X : mX} {a b : Nat} {e : va_E} (h : b ≠ a) : (mU X a e).1 b = X.1 b := if_neg h
theorem mN_at {X : mX} {e : va_E} : (mN X e).1 X.2 = some e := if_pos rfl
theorem mN_ne {X : mX} {b : Nat} {e : va_E} (h : b ≠ X.2) : (mN X e).1 b = X.1 b := if_neg h
theorem mP.lt {Y : gL} {X : mX} {H : Heap} (h : mP Y X H) {a : Nat} {e : va_E} (he : X.1 a = some e) : a < X.2 := by
  rw [← h.1]
  exact (h.2 a e he).lt
theorem mP_one {Y : gL} {X : mX} {H : Heap} (h : mP Y X H) {a : Nat} {e : va_E} (he : X.1 a = some e) : va_P (gD Y) vwCl [(a, e)] H := by
  intro i q hq
  have hz : i < 1 := (List.getElem?_eq_some_iff.mp hq).1
  rw [show i = 0 by omega] at hq
  cases hq
  exact h.2 a e he
theorem mP_set {Y : gL} {X : mX} {H H1 : Heap} {a : Nat} {e : va_E} (h : mP Y X H) (hz : H1.size = H.size) (h1 : va_at (gD Y) vwCl (a, e) H1) (oq : ∀ q : Nat, q ≠ a → H1[q]? = H[q]?) : mP Y (mU X a e) H1 := by
  refine ⟨hz.trans h.1, fun b e' hb => ?_⟩
  by_cases q : b = a
  · subst q
    rw [mU_at] at hb
    cases hb
    exact h1
  · rw [mU_ne q] at hb
    exact (h.2 b e' hb).kept (oq b q)
theorem mP_new {Y : gL} {X : mX} {H H1 : Heap} {e : va_E} (h : mP Y X H) (hz : H1.size = X.2 + 1) (h1 : va_at (gD Y) vwCl (X.2, e) H1) (oq : ∀ q : Nat, q < X.2 → H1[q]? = H[q]?) : mP Y (mN X e) H1 := by
  refine ⟨hz, fun b e' hb => ?_⟩
  by_cases q : b = X.2
  · subst q
    rw [mN_at] at hb
    cases hb
    exact h1
  · rw [mN_ne q] at hb
    exact (h.2 b e' hb).kept (oq b (h.lt hb))
/-- the end of a method that makes cells -/
def mQ (Y : gL) (Qr : mX → Prop) (A : Nat → Prop) : Array Value → State → Outcome → State → Prop := fun _ st o t => (∃ X : mX, o = .returned none ∧ Qr X ∧ mP Y X t.heap) ∧ va_F A st t
def mM (l : Launch) (y : MethodName) (cc : ByteArray) (nL : Nat) (rm : Room) (Y : gL) (al : List Value) (X : mX) (mc ms : Nat) (A : Nat → Prop) (Qr : mX → Prop) : Prop :=
  Met l y (Cond.code y cc nL none :: wsL_law) rm (va_Pc al (fun U => mP Y X U.heap ∧ gB Y U)) (mQ Y Qr A) mc ms A
abbrev mG (p : Program) (l : Launch) (e : Env) (R : Room) (s : State) (m : MethodId) (args : Array Value) (below : List Frame) (meth : Method) (c : Code) (Y : gL) (A : Nat → Prop) (mc ms : Nat) (Qr : mX → Prop) (ck cn : Nat) (X : mX) (pc : Nat) (lv : List (Nat × Value)) (st : List Value) : Prop :=
  gW p l e R s m args below meth c (mP Y) A ck cn (MQ below (mQ Y Qr A) args s mc ms A) X pc lv st
theorem mM.of {l : Launch} {y : MethodName} {cc : ByteArray} {nL : Nat} {rm : Room} {Y : gL} {al : List Value} {X : mX} {mc ms : Nat} {A : Nat → Prop} {Qr : mX → Prop} (hy : plainName y.cls = true) (hn : Nat.ble (lg_sl al).length nL = true)
    (body : ∀ (p : Program) (e : Env) (s : State) (m : MethodId) (args : Array Value) (below : List Frame) (meth : Method) (c : Code), gOK p s m args meth c Y cc nL y.cls none → meth.name = y.name → s.heap.size = X.2 → mG p l e rm s m args below meth c Y A mc ms Qr 0 0 X 0 (lv_args 0 al) []) : mM l y cc nL rm Y al X mc ms A Qr := by
  refine Met.ofW (cc := cc) (maxL := nL) (ret := none) hy rfl ?_
  intro p e s m args below meth c s₁ B hml hv
  obtain ⟨rfl, hP, hB⟩ := hv
  have hts := atoms_spec (ws := Cond.code y cc nL none :: wsL_law) B.pre
  have h := body p e s m al.toArray below meth c ⟨⟨B.exec, B.bytes, hml⟩, findClass_of_methodNamed B.named, fun w hw => hts w (List.mem_cons_of_mem _ hw), hB, B.notSynchronized, B.returns⟩ (name_of_methodNamed B.named B.method).1 hP.1
  have hl := lv_entry al (n := nL) (Nat.le_of_ble_eq_true hn)
  rw [lg_entry_eq]
  exact h s.heap [] _ hP va_S.rf (by rw [hml]; exact hl)
section MR
variable {p : Program} {l : Launch} {e : Env} {R : Room} {s : State} {m : MethodId} {args : Array Value} {below : List Frame} {meth : Method} {c : Code} {ck cn : Nat} {Q : State → Prop} {X : mX} {pc pc' : Nat} {lv : List (Nat × Value)} {st st0 : List Value} {cc : ByteArray} {nL : Nat} {Y : gL} {own : String} {ret : Option FieldType} {A : Nat → Prop}
theorem mx_vret {Qr : mX → Prop} (hC : gOK p s m args meth c Y cc nL own none) (hdg : decode cc pc = .ok (.return_, 1)) (hq : Qr X) : mG p l e R s m args below meth c Y A ck cn Qr ck cn X pc lv [] := by
  obtain ⟨hX, -, -, -, hlk, hr⟩ := hC
  intro H locs ls h1 h2 h3
  exact W.vret hX.1 hX.2.1 hr (fun t ht hW => ⟨⟨X, rfl, hq, by rw [ht]; exact h1⟩, h2.F ht⟩) h2.2.2 hdg (hlocks := hlk)
theorem mx_obj {HP : mX → Heap → Prop} (hC : gOK p s m args meth c Y cc nL own ret) {idx a : Nat} (hlk : Cond.methodLink own idx objectInit ∈ wsL_law) (hR : Nat.ble 1 R.frames = true) (hL : Nat.ble ((st.map fun v => v.category).sum + 12) R.locals = true) (hdg : decode cc pc = .ok (.invokespecial idx, 3)) (hp : pc + 3 = pc') (kk : gW p l e R s m args below meth c HP A ck cn Q X pc' lv st) : gW p l e R s m args below meth c HP A ck cn Q X pc lv (.ref a :: st) := by
  subst hp
  obtain ⟨hX, hown, hts, hB, -, -⟩ := hC
  intro H locs ls h1 h2 h3
  have hl := Nat.le_of_ble_eq_true hL
  exact W.objInit hX.1 hX.2.1 hown (hts _ hlk) (hts _ wi_objectInit) (hts _ wc_objectInit) rfl h3.1 rfl hdg (Nat.le_of_ble_eq_true hR) (by show 2 * 0 + _ + 12 ≤ _; omega) (kk H locs ls h1 h2 h3)
theorem mx_new (hC : gOK p s m args meth c Y cc nL own ret) {ci N idx : Nat} {C : String} {T : u_T} {fs : List Value} {ty : Nat → FieldType} (hcl : Cond.classLink own idx C ∈ wsL_law) (hinst : Cond.instantiable C N ∈ wsL_law) (hini : Cond.initialized C ∈ wsL_law) (hin : ∀ w ∈ u_ws C T N, w ∈ wsL_law) (hty : ∀ k, k < N → parseFieldDescriptor (T k).2.2.1 = some (ty k)) (hc : vwCl[ci]? = some (C, T, N)) (hfs : ∀ j, j < N → defaultValue (ty j) = vp_V fs j) (hk1 : ck + 1 ≤ R.cells) (hk2 : cn + N ≤ R.slots) (hdg : decode cc pc = .ok (.new idx, 3)) (hp : pc + 3 = pc') (kk : gW p l e R s m args below meth c (mP Y) A (ck + 1) (cn + N) Q (mN X (.inr (ci, fs))) pc' lv (.ref X.2 :: st)) : gW p l e R s m args below meth c (mP Y) A ck cn Q X pc lv st := by
  subst hp
  obtain ⟨hX, hown, hts, hB, -, -⟩ := hC
  intro H locs ls h1 h2 h3
  have hKn := hB.1.1 ci _ hc
  refine W.newcK hX.1 hX.2.1 hown (hts _ hcl) (hts _ hinst) (hts _ hini) rfl hdg hk1 hk2 hKn.2.1 h1.1 fun H1 kC hkC e1 z1 o1 => ?_
  exact kk H1 locs ls (mP_new h1 z1 ⟨_, hc, (u_born ty hts hin hKn hkC e1 hty).to hfs⟩ o1) ⟨Nat.le_trans h2.1 (by rw [z1, h1.1]; omega), fun x g1 g2 => (o1 x (by rw [← h1.1]; exact Nat.lt_of_lt_of_le g1 h2.1)).trans (h2.2.1 x g1 g2), h2.2.2⟩ h3
theorem mx_newa (hC : gOK p s m args meth c Y cc nL own ret) {atype : ArrayType} {ty : FieldType} (t0 : Nat) {tA : ClassId} {n : Nat} {x : Int32} {a0 : vp_A} (harr : Cond.arrayClass (newarray.typeOf atype) ∈ wsL_law) (hty : newarray.typeOf atype = ty) (ht : (gTy Y)[t0]? = some (tA, ty)) (hra : ∀ cA, va_RA s tA ty → s.vm.findClass ("[" ++ ty.toString) = some cA → cA = tA) (ha : ∀ cA : ClassId, vp_cell cA a0 = arrV cA n (fun _ => defaultValue ty)) (hx : x = nI n) (hn : Nat.blt n 1000 = true) (hcb : Nat.ble (componentBytes ty) 8 = true) (hk1 : ck + 1 ≤ R.cells) (hk2 : cn + n ≤ R.slots) (hdg : decode cc pc = .ok (.newarray atype, 2)) (hp : pc + 2 = pc') (kk : gW p l e R s m args below meth c (mP Y) A (ck + 1) (cn + n) Q (mN X (.inl (tA, a0))) pc' lv (.ref X.2 :: st)) : gW p l e R s m args below meth c (mP Y) A ck cn Q X pc lv (.int x :: st) := by
  subst hp hx hty
  obtain ⟨hX, hown, hts, hB, -, -⟩ := hC
  have hn' : n < 1000 := gblt hn
  have hcb' := Nat.le_of_ble_eq_true hcb
  intro H locs ls h1 h2 h3
  refine va_newaK (N := n) hX.1 hX.2.1 (hts _ harr) rfl hdg rfl (nI_pos (by omega)) (nI_clamp (by omega)) (Nat.le_trans (Nat.mul_le_mul (Nat.le_of_lt hn') hcb') (by omega)) hk1 hk2 h1.1 fun H1 cA e1 z1 o1 hAr hNm => ?_
  have hcA := hra cA (hB.1.2 t0 _ ht).2 hNm
  subst hcA
  refine kk H1 locs ls (mP_new h1 z1 ?_ o1) ⟨Nat.le_trans h2.1 (by rw [z1, h1.1]; omega), fun x g1 g2 => (o1 x (by rw [← h1.1]; exact Nat.lt_of_lt_of_le g1 h2.1)).trans (h2.2.1 x g1 g2), h2.2.2⟩ h3
  show H1[X.2]? = some (vp_cell _ _)
  rw [ha]
  exact e1
theorem mx_anew (hC : gOK p s m args meth c Y cc nL own ret) (t0 : Nat) {tA : ClassId} {C : String} {n idx : Nat} {x : Int32} (hcl : Cond.classLink own idx C ∈ wsL_law) (hao : va_AO C s) (ht : (gTy Y)[t0]? = some (tA, .object C)) (hx : x = nI n) (hn : Nat.blt n 1000 = true) (hk1 : ck + 1 ≤ R.cells) (hk2 : cn + n ≤ R.slots) (hdg : decode cc pc = .ok (.anewarray idx, 3)) (hp : pc + 3 = pc') (kk : gW p l e R s m args below meth c (mP Y) A (ck + 1) (cn + n) Q (mN X (.inl (tA, n, .inr (.inr (.inr (.inr (fun _ => none))))))) pc' lv (.ref X.2 :: st)) : gW p l e R s m args below meth c (mP Y) A ck cn Q X pc lv (.int x :: st) := by
  subst hp hx
  obtain ⟨hX, hown, hts, hB, -, -⟩ := hC
  have hn' : n < 1000 := gblt hn
  have hcl' : (nI n).toNatClampNeg = n := nI_clamp (by omega)
  intro H locs ls h1 h2 h3
  refine W.anew hX.1 hX.2.1 hown (hts _ hcl) (va_AO.use hao) rfl hdg rfl (nI_pos (by omega)) (by rw [hcl']; omega) hk1 (by rw [hcl']; exact hk2) fun cA kA comp f1 f2 f3 f4 => ?_
  obtain ⟨kA', comp', g1, g2, g3, g4⟩ := (hB.1.2 t0 _ ht).2
  obtain rfl : cA = tA := Option.some.inj (f1.symm.trans g4)
  rw [hcl']
  generalize hH1 : H.push ({ cls := cA, slots := Array.replicate n .null, vm := .none } : Cell) = H1
  have z1 : H1.size = X.2 + 1 := by rw [← hH1, Array.size_push, h1.1]
  have e1 : H1[X.2]? = some (arrV cA n (fun _ => .null)) := by rw [← h1.1, ← hH1, Array.getElem?_push_size, ← arrV_new]
  have o1 : ∀ q : Nat, q < X.2 → H1[q]? = H[q]? := fun q hq => by rw [← hH1, Array.getElem?_push, if_neg (by rw [h1.1]; omega)]
  rw [h1.1]
  refine kk H1 locs ls (mP_new h1 z1 ?_ o1) ⟨Nat.le_trans h2.1 (by rw [z1, h1.1]; omega), fun x g1 g2 => (o1 x (by rw [← h1.1]; exact Nat.lt_of_lt_of_le g1 h2.1)).trans (h2.2.1 x g1 g2), h2.2.2⟩ h3
  show H1[X.2]? = some (vp_cell _ _)
  rw [vp_cell_q]
  exact e1
theorem mx_get (hC : gOK p s m args meth c Y cc nL own ret) (j : Nat) {a ci N idx : Nat} {v : Value} {fs : List Value} {C ref : String} {T : u_T} (hin : ∀ w ∈ u_ws C T N, w ∈ wsL_law) (hlk : Cond.fieldLink own idx ref (T j).2.1 (T j).2.2.1 ∈ wsL_law) (href : ref = (T j).1) (he : X.1 a = some (.inr (ci, fs))) (hc : vwCl[ci]? = some (C, T, N)) (hj : Nat.blt j N = true) (hv : fs[j]? = some v) (hdg : decode cc pc = .ok (.getfield idx, 3)) (hp : pc + 3 = pc') (kk : gW p l e R s m args below meth c (mP Y) A ck cn Q X pc' lv (v :: st)) : gW p l e R s m args below meth c (mP Y) A ck cn Q X pc lv (.ref a :: st) := by
  subst hp
  obtain ⟨hX, hown, hts, hB, -, -⟩ := hC
  intro H locs ls h1 h2 h3
  exact va_get hX.1 hX.2.1 hts hin hown hB.1 (mP_one h1 he) 0 rfl hc j (gblt hj) (hts _ hlk) (fun _ h9 => by rw [href]; exact h9) hv hdg (kk H locs ls h1 h2 h3)
theorem mx_put (hC : gOK p s m args meth c Y cc nL own ret) (hm : meth.name = "<init>") (j : Nat) {a ci N idx : Nat} {v : Value} {fs : List Value} {C ref : String} {T : u_T} {ty : FieldType} {ty0 : Nat → FieldType} (hin : ∀ w ∈ u_ws C T N, w ∈ wsL_law) (hty : ∀ k, k < N → parseFieldDescriptor (T k).2.2.1 = some (ty0 k)) (hnm : ∀ a, a < N → ∀ b, b < N → a ≠ b → (T a).2.1 ≠ (T b).2.1) (hlk : Cond.fieldLink own idx ref (T j).2.1 (T j).2.2.1 ∈ wsL_law) (href : ref = (T j).1) (he : X.1 a = some (.inr (ci, fs))) (hc : vwCl[ci]? = some (C, T, N)) (hA : A a) (hj : Nat.blt j N = true) (hjl : Nat.blt j fs.length = true) (hdc : (T j).1 = own) (hd : ty0 j = ty) (hn : narrow ty v = v) (hfit : fits ty v = true) (hdg : decode cc pc = .ok (.putfield idx, 3)) (hp : pc + 3 = pc') (kk : gW p l e R s m args below meth c (mP Y) A ck cn Q (mU X a (.inr (ci, fs.set j v))) pc' lv st) : gW p l e R s m args below meth c (mP Y) A ck cn Q X pc lv (v :: .ref a :: st) := by
  subst hp
  obtain ⟨hX, hown, hts, hB, -, -⟩ := hC
  have hj' : j < N := gblt hj
  have hjl' : j < fs.length := gblt hjl
  have hd' : parseFieldDescriptor (T j).2.2.1 = some ty := by rw [← hd]; exact hty j hj'
  intro H locs ls h1 h2 h3
  have hP := mP_one h1 he
  have hap := va_apart (own := own) hts hin ty0 hty hnm hB.1 hc
  obtain ⟨r, hr1, cell, q1, q2, q3, q4⟩ := hP 0 _ rfl
  have hr : r = (C, T, N) := Option.some.inj (hr1.symm.trans hc)
  subst hr
  obtain ⟨hS, hfc, kC, hkC, hkind⟩ := hB.1.1 ci _ hc
  obtain ⟨cf, kf, fi, f, hi, hsl⟩ := hS j hj'
  have hlay := hts _ (hin _ (u_in_lay hj'))
  unfold u_lay at hlay
  have hst := (u_facts hfc hkC (u_lays hts hin hj') hi).1
  have fin : ∀ H' : Heap, H'[a]? = some (cell.setSlot f.slot v) → H'.size = H.size → (∀ q, q ≠ a → H'[q]? = H[q]?) → W p l e R s m args below meth c H' (locs ++ [⟨a, f.slot⟩]) ck cn Q (F0 m (pc + 3) ls st) := by
    intro H' e1 e2 e3
    rw [hsl] at e1 ⊢
    exact kk H' _ ls (mP_set h1 e2 ⟨_, hc, t_OB.to (V := updV (vp_V fs) j v) ⟨_, e1, q2, q3, t_set q4 hap hj' v⟩ (fun i _ => vp_updV_set hjl' v i)⟩ e3) (h2.put e2 e3 hA) h3
  by_cases hfin : (T j).2.2.2 = true
  · rw [if_pos hfin] at hlay
    have hcf : m.cls = cf := by
      obtain ⟨_, _, c', _, _, _, -, -, hf', -, -, -, hown2, -⟩ := Cond.laysFinal_spec hlay
      have e1 : c' = cf := by have := hi.symm.trans hf'; simp at this; exact this.1.symm
      rw [hdc] at hown2
      rw [← e1]; exact Option.some.inj (hown.symm.trans hown2)
    have h6 := u_fits hfc hkC hkind (Or.inr hlay) hi hd' hn hfit
    exact W.putFinK hX.1 hX.2.1 hown (hts _ hlk) (by rw [href]; exact hi) hst hcf hm (by rw [q2]; exact h6) q1 q3 (by rw [hsl]; exact k2_hasslot (q4 j hj')) rfl rfl hdg fin
  · rw [if_neg hfin] at hlay
    have h6 := u_store hfc hkC hkind hlay hi hd' hn hfit
    exact W.putK hX.1 hX.2.1 (f := f) ⟨hown, hts _ hlk, ⟨_, _, _, by rw [href]; exact hi⟩, hst⟩ (by rw [q2]; exact h6) q1 q3 (by rw [hsl]; exact k2_hasslot (q4 j hj')) rfl rfl hdg fin
theorem mx_iast (hC : gOK p s m args meth c Y cc nL own ret) {a n i : Nat} {x v : Int32} {f : Nat → Int32} (he : X.1 a = some (.inl (gTi Y, n, .inl f))) (hA : A a) (hx : x = nI i) (hi : i < n) (hn : Nat.blt n 1000 = true) (hdg : decode cc pc = .ok (.iastore, 1)) (hp : pc + 1 = pc') (kk : gW p l e R s m args below meth c (mP Y) A ck cn Q (mU X a (.inl (gTi Y, n, .inl (fun j => if j = i then v else f j)))) pc' lv st) : gW p l e R s m args below meth c (mP Y) A ck cn Q X pc lv (.int v :: .int x :: .ref a :: st) := by
  subst hp hx
  obtain ⟨hX, hown, hts, hB, -, -⟩ := hC
  have hn' : n < 1000 := gblt hn
  intro H locs ls h1 h2 h3
  have hP := mP_one h1 he
  have hin : vp_in (nI i) n := vp_in_nI hi (by omega)
  refine W.iast hX.1 hX.2.1 (hP 0 _ rfl) ((hB.1.2 0 _ rfl).1 n (fun j => .int (f j))) (fun q => by cases q) (by show ¬ (nI i < 0 ∨ (arrV _ _ _).slots.size ≤ _); rw [arrV_size]; exact hin) rfl rfl hdg fun H1 e z oq => ?_
  refine kk H1 _ ls (mP_set h1 z ?_ oq) (h2.put z oq hA) h3
  show H1[a]? = some (vp_cell _ _)
  rw [e]
  rw [vp_cell_i, vp_cell_i, arrV_store]
  congr 2
  funext q
  rw [nI_clamp (n := i) (by omega)]
  by_cases hq : q = i
  · subst hq
    simp [updV]
  · simp [updV, hq]
theorem mx_aast (hC : gOK p s m args meth c Y cc nL own ret) (t0 : Nat) {a n i v ci N : Nat} {x : Int32} {fs : List Value} {C : String} {T : u_T} {tA : ClassId} {f : Nat → Option Nat} (he : X.1 a = some (.inl (tA, n, .inr (.inr (.inr (.inr f)))))) (ht : (gTy Y)[t0]? = some (tA, .object C)) (hev : X.1 v = some (.inr (ci, fs))) (hc : vwCl[ci]? = some (C, T, N)) (hA : A a) (hx : x = nI i) (hi : i < n) (hn : Nat.blt n 1000 = true) (hdg : decode cc pc = .ok (.aastore, 1)) (hp : pc + 1 = pc') (kk : gW p l e R s m args below meth c (mP Y) A ck cn Q (mU X a (.inl (tA, n, .inr (.inr (.inr (.inr (fun j => if j = i then some v else f j))))))) pc' lv st) : gW p l e R s m args below meth c (mP Y) A ck cn Q X pc lv (.ref v :: .int x :: .ref a :: st) := by
  subst hp hx
  obtain ⟨hX, hown, hts, hB, -, -⟩ := hC
  have hn' : n < 1000 := gblt hn
  intro H locs ls h1 h2 h3
  have hP := mP_one h1 he
  have hPv := mP_one h1 hev
  have hin : vp_in (nI i) n := vp_in_nI hi (by omega)
  have hcl : (nI i).toNatClampNeg = i := nI_clamp (by omega)
  obtain ⟨r', hr', cellV, g1, g2, g3, -⟩ := hPv 0 _ rfl
  have hcls := (hB.1.1 ci _ hc).2
  obtain ⟨kA, comp, k1, k2, k3, -⟩ := (hB.1.2 t0 _ ht).2
  have hcomp : comp = (gD Y).1 ci := Option.some.inj (k3.symm.trans hcls.1)
  subst hcomp
  obtain ⟨kC, hkC, -⟩ := hcls.2
  refine W.aast hX.1 hX.2.1 (hP 0 _ rfl) (fun q h => by cases h) (fun h => by cases h) k1 k2 rfl hkC ⟨fun q => hin (Or.inl q), by show _ < (arrV _ _ _).slots.size; rw [arrV_size, hcl]; exact hi⟩ g1 (fun q h => by rw [g3] at h; cases h) (by rw [g2]; exact hkC) (by rw [g2]; exact va_assign hcls) rfl rfl hdg fun H1 e z oq => ?_
  refine kk H1 _ ls (mP_set h1 z ?_ oq) (h2.put z oq hA) h3
  show H1[a]? = some (vp_cell _ _)
  rw [e]
  rw [vp_cell_q, vp_cell_q, arrV_store]
  congr 2
  funext q
  rw [hcl]
  by_cases hq : q = i
  · subst hq
    simp [updV, va_rf]
  · simp [updV, hq]
end MR
/-! calls of methods that make cells -/
def mYI (y : MethodName) (cc : ByteArray) (nL : Nat) : Prop := Cond.code y cc nL none ∈ wsL_law ∧ Cond.instanceMethod y ∈ wsL_law ∧ Cond.initialized y.cls ∈ wsL_law ∧ y.name = "<init>" ∧ (y.cls ≠ "java/lang/invoke/MethodHandle" ∧ y.cls ≠ "java/lang/invoke/VarHandle" ∧ (parseMethodDescriptor y.desc).map (fun d => d.parameters.length) = some 0)
def mRm (rm R : Room) (nL2 mc ms : Nat) : Bool := Nat.ble (rm.frames + 1) R.frames && (Nat.ble (8 + (nL2 + 11) + rm.locals) R.locals && (Nat.beq rm.cells mc && Nat.beq rm.slots ms))
theorem mRm_spec {rm R : Room} {nL2 mc ms : Nat} (h : mRm rm R nL2 mc ms = true) : rm.frames + 1 ≤ R.frames ∧ 8 + (nL2 + 11) + rm.locals ≤ R.locals ∧ rm.cells = mc ∧ rm.slots = ms := by
  unfold mRm at h
  simp only [Bool.and_eq_true] at h
  exact ⟨Nat.le_of_ble_eq_true h.1, Nat.le_of_ble_eq_true h.2.1, Nat.eq_of_beq_eq_true h.2.2.1, Nat.eq_of_beq_eq_true h.2.2.2⟩
theorem mM_blind {Y : gL} {al : List Value} {X : mX} : FrameBlind (va_Pc al (fun U => mP Y X U.heap ∧ gB Y U)) := fun a U g mk q => ⟨q.1, q.2.1, gB_calling q.2.2⟩
section MC
variable {p : Program} {l : Launch} {e : Env} {R : Room} {s : State} {m : MethodId} {args : Array Value} {below : List Frame} {meth : Method} {c : Code} {ck cn : Nat} {Q : State → Prop} {X : mX} {pc pc' : Nat} {lv : List (Nat × Value)} {st st0 : List Value} {cc : ByteArray} {nL : Nat} {Y : gL} {own : String} {ret : Option FieldType} {A : Nat → Prop}
theorem mx_run {mc ms : Nat} {a : Array Value} {Qc : mX → Prop} {Ac : Nat → Prop} {H : Heap} {locs : List Loc} {ls : Array Slot} {rest : List Value} (hr : va_Run p l e R s m args below meth c H locs ck cn mc ms (F0 m pc ls st0) rest (mQ Y Qc Ac a) Ac) (hA : ∀ q, Ac q → A q) (hS : va_S A s.heap H locs)
    (kk : ∀ (X1 : mX) (H1 : Heap) (locs1 : List Loc), Qc X1 → mP Y X1 H1 → va_S A s.heap H1 locs1 → W p l e R s m args below meth c H1 locs1 (ck + mc) (cn + ms) Q (F0 m (pc + 3) ls rest)) : W p l e R s m args below meth c H locs ck cn Q (F0 m pc ls st0) := by
  intro T hT X'
  obtain ⟨v, st₀, t, T', L, h0, X'', hL, e1, e2, ⟨⟨X1, hv, hq, hP⟩, hz, hk⟩, st⟩ := hr T hT X'
  cases hv
  rw [h0] at hz hk
  obtain ⟨t2, a1, b1⟩ := kk X1 T'.heap (locs ++ L) hq (by rw [e1]; exact hP)
    ⟨Nat.le_trans hS.1 (by rw [e1]; exact hz), fun q h1 h2 => by rw [e1, hk q (Nat.lt_of_lt_of_le h1 hS.1) (fun z => h2 (hA q z))]; exact hS.2.1 q h1 h2, fun q hq => by
      rcases List.mem_append.mp hq with h | h
      · exact hS.2.2 q h
      · exact hA _ (hL q h)⟩ T' rfl X''
  exact ⟨t2, st t2 a1, b1⟩
theorem mx_callI (hC : gOK p s m args meth c Y cc nL own ret) {y : MethodName} {cc2 : ByteArray} {nL2 idx b mc ms : Nat} {rm : Room} {Ac : Nat → Prop} {Qc : mX → Prop} (hM : mM l y cc2 nL2 rm Y [.ref b] X mc ms Ac Qc) (hy : mYI y cc2 nL2) (hlk : Cond.methodLink own idx y ∈ wsL_law) (hR : mRm rm R nL2 mc ms = true) (hA : ∀ q, Ac q → A q) (hk1 : ck + mc ≤ R.cells) (hk2 : cn + ms ≤ R.slots) (hcat : Nat.ble (st.map fun v => v.category).sum 8 = true) (hdg : decode cc pc = .ok (.invokespecial idx, 3)) (hp : pc + 3 = pc') (kk : ∀ X1 : mX, Qc X1 → gW p l e R s m args below meth c (mP Y) A (ck + mc) (cn + ms) Q X1 pc' lv st) : gW p l e R s m args below meth c (mP Y) A ck cn Q X pc lv (.ref b :: st) := by
  subst hp
  obtain ⟨hX, hown, hts, hB, -, -⟩ := hC
  obtain ⟨y1, y2, y4, y6, y5⟩ := hy
  obtain ⟨r1, r2, r3, r4⟩ := mRm_spec hR
  have hcat' := Nat.le_of_ble_eq_true hcat
  intro H locs ls h1 h2 h3
  have cw : CallB R s args own idx y cc2 nL2 none (Cond.code y cc2 nL2 none :: wsL_law) rm mc ms 0 ∧ y.name = "<init>" ∧ (Cond.instanceMethod y).before args s = true := ⟨callB_of 0 hts (wsL_code y1) rfl r3 r4 (hts _ y4) (hts _ hlk) y5 ⟨r1, r2⟩, y6, hts _ y2⟩
  exact mx_run (va_runI (As := []) (rest := st) (b := b) ⟨hX.1, hX.2.1, hX.2.2, hown, hts⟩ hM cw ⟨mM_blind, fun U hU hW => ⟨rfl, by rw [hU]; exact h1, gB_moved hW hB⟩⟩ rfl rfl (by rw [← hX.2.2]; exact h3.1) rfl (lv_room hcat') hdg ⟨hk1, hk2⟩) hA h2 (fun X1 H1 locs1 hq hP hS => kk X1 hq H1 locs1 ls hP hS h3)
theorem mx_callIN (hC : gOK p s m args meth c Y cc nL own ret) {y : MethodName} {cc2 : ByteArray} {nL2 idx b mc ms : Nat} {rm : Room} {Ac : Nat → Prop} {Qc : mX → Prop} (hM : mM l y cc2 nL2 rm Y [.ref b] X mc ms Ac Qc) (hy : mYI y cc2 nL2) (hlk : Cond.methodLinkNest own idx y "ReactiveNotebook" ∈ gNest) (hR : mRm rm R nL2 mc ms = true) (hA : ∀ q, Ac q → A q) (hk1 : ck + mc ≤ R.cells) (hk2 : cn + ms ≤ R.slots) (hcat : Nat.ble (st.map fun v => v.category).sum 8 = true) (hdg : decode cc pc = .ok (.invokespecial idx, 3)) (hp : pc + 3 = pc') (kk : ∀ X1 : mX, Qc X1 → gW p l e R s m args below meth c (mP Y) A (ck + mc) (cn + ms) Q X1 pc' lv st) : gW p l e R s m args below meth c (mP Y) A ck cn Q X pc lv (.ref b :: st) := by
  subst hp
  obtain ⟨hX, hown, hts, hB, -, -⟩ := hC
  obtain ⟨y1, y2, y4, y6, y5⟩ := hy
  obtain ⟨r1, r2, r3, r4⟩ := mRm_spec hR
  have hcat' := Nat.le_of_ble_eq_true hcat
  intro H locs ls h1 h2 h3
  have cw : va_CN R s args own idx y "ReactiveNotebook" cc2 nL2 none (Cond.code y cc2 nL2 none :: wsL_law) rm mc ms 0 ∧ y.name = "<init>" ∧ (Cond.instanceMethod y).before args s = true := ⟨va_cnB 0 hts (wsL_code y1) rfl r3 r4 (hB.2.1 _ hlk) (hts _ y4) y5 ⟨r1, r2⟩, y6, hts _ y2⟩
  exact mx_run (va_runIN (As := []) (rest := st) (b := b) ⟨hX.1, hX.2.1, hX.2.2, hown, hts⟩ hM cw ⟨mM_blind, fun U hU hW => ⟨rfl, by rw [hU]; exact h1, gB_moved hW hB⟩⟩ rfl rfl (by rw [← hX.2.2]; exact h3.1) rfl (lv_room hcat') hdg ⟨hk1, hk2⟩) hA h2 (fun X1 H1 locs1 hq hP hS => kk X1 hq H1 locs1 ls hP hS h3)
theorem mx_callV (hC : gOK p s m args meth c Y cc nL own ret) {y : MethodName} {cc2 : ByteArray} {nL2 idx b ci N mc ms : Nat} {rm : Room} {Ac : Nat → Prop} {Qc : mX → Prop} {fs : List Value} {T : u_T} (hM : mM l y cc2 nL2 rm Y [.ref b] X mc ms Ac Qc) (hy : gYV y cc2 nL2 none 0) (hlk : Cond.methodLink own idx y ∈ wsL_law) (hR : mRm rm R nL2 mc ms = true) (he : X.1 b = some (.inr (ci, fs))) (hc : vwCl[ci]? = some (y.cls, T, N)) (hA : ∀ q, Ac q → A q) (hk1 : ck + mc ≤ R.cells) (hk2 : cn + ms ≤ R.slots) (hcat : Nat.ble (st.map fun v => v.category).sum 8 = true) (hdg : decode cc pc = .ok (.invokevirtual idx, 3)) (hp : pc + 3 = pc') (kk : ∀ X1 : mX, Qc X1 → gW p l e R s m args below meth c (mP Y) A (ck + mc) (cn + ms) Q X1 pc' lv st) : gW p l e R s m args below meth c (mP Y) A ck cn Q X pc lv (.ref b :: st) := by
  subst hp
  obtain ⟨hX, hown, hts, hB, -, -⟩ := hC
  obtain ⟨y1, y2, y3, y4, y5⟩ := hy
  obtain ⟨r1, r2, r3, r4⟩ := mRm_spec hR
  have hcat' := Nat.le_of_ble_eq_true hcat
  intro H locs ls h1 h2 h3
  have cw : CallW R s args own y.cls idx y cc2 nL2 none (Cond.code y cc2 nL2 none :: wsL_law) rm mc ms 0 := ⟨callB_of 0 hts (wsL_code y1) rfl r3 r4 (hts _ y4) (hts _ hlk) y5 ⟨r1, r2⟩, hts _ y2, hts _ y3⟩
  exact mx_run (va_runV (As := []) (rest := st) (b := b) ⟨hX.1, hX.2.1, hX.2.2, hown, hts⟩ hM cw ⟨mM_blind, va_recv hB.1 (mP_one h1 he) hc (q0 := 0) rfl, fun U hU hW => ⟨rfl, by rw [hU]; exact h1, gB_moved hW hB⟩⟩ rfl rfl (by rw [← hX.2.2]; exact h3.1) rfl (lv_room hcat') hdg ⟨hk1, hk2⟩) hA h2 (fun X1 H1 locs1 hq hP hS => kk X1 hq H1 locs1 ls hP hS h3)
end MC
theorem kX0_init : mYI yX0_init cX0_init 1 := ⟨wc_yX0_init, wi_yX0_init, wn_RX0, rfl, by decide +kernel⟩
theorem kX1_init : mYI yX1_init cX1_init 1 := ⟨wc_yX1_init, wi_yX1_init, wn_RX1, rfl, by decide +kernel⟩
theorem kX2_init : mYI yX2_init cX2_init 2 := ⟨wc_yX2_init, wi_yX2_init, wn_RX2, rfl, by decide +kernel⟩
theorem kX3_init : mYI yX3_init cX3_init 2 := ⟨wc_yX3_init, wi_yX3_init, wn_RX3, rfl, by decide +kernel⟩
theorem kX4_init : mYI yX4_init cX4_init 1 := ⟨wc_yX4_init, wi_yX4_init, wn_RX4, rfl, by decide +kernel⟩
