/-! ===== each call: its answer and the state behind it; a state: the row, how many cells, the saved rows, how many, the error counters ===== -/
abbrev qA : Type := (Nat → Int32) × Nat × (Nat → Nat → Int32) × Nat × (Nat → Int32)
def qfail (a : qA) (k : Nat) : qA := (a.1, a.2.1, a.2.2.1, a.2.2.2.1, qup a.2.2.2.2 k (a.2.2.2.2 k + 1))
/-- saved, and the row is another -/
def qsave (a : qA) (r : Nat → Int32) (n : Nat) : qA := (r, n, qpush a.2.2.1 a.2.2.2.1 a.1, qpn a.2.2.2.1, a.2.2.2.2)
def qci (n : Nat) (x : Int32) : Option Nat := if ¬ x < 0 ∧ ¬ nI n - 1 < x then some x.toNatClampNeg else none
def qisdef (v op x y : Int32) : Prop := (¬ v < 0 ∧ ¬ 9 < v) ∧ (¬ op < 0 ∧ ¬ 5 < op) ∧ (¬ x < 0 ∧ ¬ 109 < x) ∧ (¬ y < 0 ∧ ¬ 109 < y)
def qcell (a : qA) (x : Int32) (f : Nat → Int32 × qA) : Int32 × qA := match qci a.2.1 x with
  | none => (-10002, qfail a 0)
  | some c => f c
def qsv (r : Nat → Int32) : Nat → Int32 := qup r 4 0
def qeag (r : Nat → Int32) (n : Nat) : Nat → Int32 := if r 1 = 1 then qrt r n (-1) else r
def qadd1 (r : Nat → Int32) (n : Nat) (v op x y : Int32) : Nat → Int32 := qup (qup (qdef (qsv r) n v op x y) (17 + 10 * n + 8) 0) 0 (nI (n + 1))
def qaddCell (a : qA) (v op x y : Int32) : Int32 × qA :=
  if (¬ v < 0 ∧ ¬ 9 < v) ∧ (¬ op < 0 ∧ ¬ 5 < op) ∧ (¬ x < 0 ∧ ¬ 109 < x) ∧ (¬ y < 0 ∧ ¬ 109 < y) then
    (if a.2.1 = 12 then (-10004, qfail a 2) else (nI a.2.1, qsave a (qeag (qadd1 a.1 a.2.1 v op x y) (a.2.1 + 1)) (a.2.1 + 1)))
  else (-10002, qfail a 0)
def qeditCell (a : qA) (c v op x y : Int32) : Int32 × qA := qcell a c (fun c =>
  if (¬ v < 0 ∧ ¬ 9 < v) ∧ (¬ op < 0 ∧ ¬ 5 < op) ∧ (¬ x < 0 ∧ ¬ 109 < x) ∧ (¬ y < 0 ∧ ¬ 109 < y) then
    (a.1 (17 + 10 * c + 0), qsave a (qeag (qdef (qsv a.1) c v op x y) a.2.1) a.2.1)
  else (-10002, qfail a 0))
/-- the blocks from a on, up to b, one to the left -/
def qshl (r : Nat → Int32) (a b : Nat) : Nat → Int32 := fun j => if 17 + 10 * a ≤ j ∧ j < 17 + 10 * b then r (j + 10) else r j
/-- the blocks from b + 1 on, up to and with a, filled from the left -/
def qshr (r : Nat → Int32) (a b : Nat) : Nat → Int32 := fun j => if 17 + 10 * (b + 1) ≤ j ∧ j < 17 + 10 * (a + 1) then r (j - 10) else r j
/-- k places of a block laid from f -/
def qlay (r : Nat → Int32) (t : Nat) (f : Nat → Int32) (k : Nat) : Nat → Int32 := fun j => if 17 + 10 * t ≤ j ∧ j < 17 + 10 * t + k then f (j - (17 + 10 * t)) else r j
def qdeleteCell (a : qA) (c : Int32) : Int32 × qA := qcell a c (fun c => (nI (a.2.1 - 1), qsave a (qeag (qshl (qup (qsv a.1) 0 (nI (a.2.1 - 1))) c (a.2.1 - 1)) (a.2.1 - 1)) (a.2.1 - 1)))
def qmv (r : Nat → Int32) (c t : Nat) : Nat → Int32 := qlay (if c < t then qshl r c t else qshr r c t) t (fun k => r (17 + 10 * c + k)) 10
def qmoveCell (a : qA) (c t : Int32) : Int32 × qA := qcell a c (fun c => qcell a t (fun t => (nI (if c = t then 0 else if c < t then t - c + 1 else c - t + 1), qsave a (qeag (qmv (qsv a.1) c t) a.2.1) a.2.1)))
def qsetEager (a : qA) (e : Int32) : Int32 × qA := if ¬ e < 0 ∧ ¬ 1 < e then (a.1 1, qsave a (qeag (qup (qsv a.1) 1 e) a.2.1) a.2.1) else (-10002, qfail a 0)
def qrunStale (a : qA) : Int32 × qA := (qrt (qsv a.1) a.2.1 (-1) 4, qsave a (qrt (qsv a.1) a.2.1 (-1)) a.2.1)
/-- a set of cells out of its members -/
def qmk (p : Nat → Bool) : Nat → Int32
  | 0 => 0
  | k + 1 => qmk p k ||| (if p k = true then qb k else 0)
def qset (g : qG) (c : Nat) : Int32 := qmk (fun d => qall g c d || decide (d = c)) (qn g)
def qrunCell (a : qA) (c : Int32) : Int32 × qA := qcell a c (fun c => if qw (qg a.1 a.2.1) c = 0 then (qrt (qsv a.1) a.2.1 (qset (qg a.1 a.2.1) c) 4, qsave a (qrt (qsv a.1) a.2.1 (qset (qg a.1 a.2.1) c)) a.2.1) else (-10003, qfail a 1))
def qlastRun (a : qA) (i : Int32) : Int32 × qA := if i < 0 then (-10002, qfail a 0) else if i < a.1 4 then (a.1 (5 + i.toNatClampNeg), a) else (-10001, a)
def qof (a : qA) (c : Int32) (w : Nat) : Int32 × qA := qcell a c (fun c => (a.1 (17 + 10 * c + w), a))
def qstatus (a : qA) (c : Int32) : Int32 × qA := qcell a c (fun c => (qsta (qg a.1 a.2.1) a.1 c, a))
def qvalue (a : qA) (c : Int32) : Int32 × qA := qcell a c (fun c => (qval (qg a.1 a.2.1) a.1 c, a))
def qvof (g : qG) (r : Nat → Int32) (k : Nat) : Int32 := if k < 12 then qval g r k else -10001
def qvalueOf (a : qA) (v : Int32) : Int32 × qA := if ¬ v < 0 ∧ ¬ 9 < v then (qvof (qg a.1 a.2.1) a.1 (qonl (qdf (qg a.1 a.2.1) v)), a) else (-10002, qfail a 0)
def qdependencies (a : qA) (c : Int32) : Int32 × qA := qcell a c (fun c => (qdir (qg a.1 a.2.1) c, a))
def qdependents (a : qA) (c : Int32) : Int32 × qA := qcell a c (fun c => (qdpt (qg a.1 a.2.1) c a.2.1, a))
def qdefiners (a : qA) (v : Int32) : Int32 × qA := if ¬ v < 0 ∧ ¬ 9 < v then (qdf (qg a.1 a.2.1) v, a) else (-10002, qfail a 0)
def qrunnableCount (a : qA) : Int32 × qA := (nI (qm (qg a.1 a.2.1)), a)
def qrunOrder (a : qA) (i : Int32) : Int32 × qA := if i < 0 then (-10002, qfail a 0) else if i < nI (qm (qg a.1 a.2.1)) then (nI (qo (qg a.1 a.2.1) i.toNatClampNeg), a) else (-10001, a)
def qcnt (p : Nat → Bool) : Nat → Nat
  | 0 => 0
  | k + 1 => qcnt p k + (if p k = true then 1 else 0)
def qstaleCount (a : qA) : Int32 × qA := (nI (qcnt (fun k => !(qF (qg a.1 a.2.1) a.1 (qo (qg a.1 a.2.1) k))) (qm (qg a.1 a.2.1))), a)
def qback (a : qA) : Nat → Int32 := fun j => if j < 137 then a.2.2.1 (a.2.2.2.1 - 1) j else a.1 j
def qundo (a : qA) : Int32 × qA := if a.2.2.2.1 = 0 then (-10003, qfail a 1) else (nI (a.2.2.2.1 - 1), (qback a, (qback a 0).toNatClampNeg, a.2.2.1, a.2.2.2.1 - 1, a.2.2.2.2))
def qerrorCount (a : qA) (k : Int32) : Int32 × qA := if ¬ k < 0 ∧ ¬ 2 < k then (a.2.2.2.2 k.toNatClampNeg, a) else (-10002, qfail a 0)
def qmix (h : Int64) (v : Int32) : Int64 := 31 * h + v.toInt64
def qhs (f : Nat → Int32) : Nat → Int64 → Int64
  | 0, h => h
  | k + 1, h => qmix (qhs f k h) (f k)
def qhc (g : qG) (r : Nat → Int32) (c : Nat) (h : Int64) : Int64 := qmix (qmix (qmix (qmix (qmix (qmix (qhs (fun w => r (17 + 10 * c + w)) 4 h) (qsta g r c)) (qval g r c)) (r (17 + 10 * c + 5))) (r (17 + 10 * c + 8))) (qdir g c)) (qdpt g c (qn g))
def qdigest (a : qA) : Int64 :=
  qhs (fun k => nI (qo (qg a.1 a.2.1) k)) (qm (qg a.1 a.2.1)) (qmix (qit (fun c h => qhc (qg a.1 a.2.1) a.1 c h) a.2.1 (qmix (qhs (fun k => a.1 (5 + k)) (a.1 4).toNatClampNeg (qmix (qmix (qmix (qmix (qhs a.2.2.2.2 3 11872) (nI a.2.2.2.1)) (a.1 1)) (a.1 3)) (a.1 4))) (a.1 0))) (nI (qm (qg a.1 a.2.1))))
/-! what holds of every state -/
def qAI (a : qA) (B : Nat) : Prop := qRI a.1 a.2.1 B ∧ a.2.2.2.1 ≤ 4 ∧ ∀ j, j < a.2.2.2.1 → ∃ n, qRI (a.2.2.1 j) n B
/-- the model's cells hold the state a -/
def gMA (Y : gL) (mo : Nat) (σ : gS) (a : qA) : Prop := gRow Y mo σ a.1 a.2.1 ∧ gPast Y mo σ a.2.2.1 a.2.2.2.1 ∧ σ.1 (gF Y mo 3) = a.2.2.2.2
/-! pieces -/
theorem qci_some {n : Nat} (hn : n ≤ 12) {c : Nat} (hc : c < n) : qci n (nI c) = some c := by
  unfold qci
  rw [if_pos ((qicell hn).mpr ⟨c, hc, rfl⟩), nI_clamp (by omega)]
theorem qci_none {n : Nat} (hn : n ≤ 12) {x : Int32} (h : ¬ ∃ j, j < n ∧ x = nI j) : qci n x = none := by
  unfold qci
  rw [if_neg (fun q => h ((qicell hn).mp q))]
theorem qcell_some {a : qA} (hn : a.2.1 ≤ 12) {c : Nat} (hc : c < a.2.1) {f : Nat → Int32 × qA} : qcell a (nI c) f = f c := by
  unfold qcell
  rw [qci_some hn hc]
theorem qcell_none {a : qA} (hn : a.2.1 ≤ 12) {x : Int32} (h : ¬ ∃ j, j < a.2.1 ∧ x = nI j) {f : Nat → Int32 × qA} : qcell a x f = (-10002, qfail a 0) := by
  unfold qcell
  rw [qci_none hn h]
theorem gMA.eq {Y : gL} {mo : Nat} {σ τ : gS} {a : qA} {rs : List Nat} (h : gMA Y mo σ a) (hM : gLM Y mo) (he : gEq Y rs σ τ) (h2 : τ.1 mo 2 = σ.1 mo 2) (h16 : 16 ∉ rs) (h17 : 17 ∉ rs) (h18 : 18 ∉ rs) : gMA Y mo τ a := ⟨h.1.eq hM he h16, h.2.1.eq hM he h2 h17, by rw [he.at (gM3 hM) h18]; exact h.2.2⟩
theorem gMA.fail {Y : gL} {mo : Nat} {σ : gS} {a : qA} (h : gMA Y mo σ a) (hM : gLM Y mo) {k : Nat} : gMA Y mo (uI σ (gF Y mo 3) k (σ.1 (gF Y mo 3) k + 1)) (qfail a k) := by
  refine ⟨h.1.put (gM3 hM) (by decide) hM, ⟨h.2.1.1, ?_, fun j i hj hi => ?_⟩, ?_⟩
  · rw [uI_ne (gK_ne (gM0 hM) (gM3 hM) (by decide))]
    exact h.2.1.2.1
  · rw [uI_ne (gK_ne (gM2 hM) (gM3 hM) (by decide))]
    exact h.2.1.2.2 j i hj hi
  · rw [h.2.2]
    funext j
    show (uI σ (gF Y mo 3) k _).1 (gF Y mo 3) j = qup a.2.2.2.2 k _ j
    unfold qup
    by_cases e : j = k
    · subst e
      rw [uI_at, if_pos rfl]
    · rw [uI_off e, if_neg e, h.2.2]
theorem qmk_bit (p : Nat → Bool) {d : Nat} (hd : d < 32) : ∀ k, k ≤ 32 → (qt (qmk p k) d = true ↔ d < k ∧ p d = true)
  | 0, _ => by simp [qmk, qt_0 d hd]
  | k + 1, hk => by
    have ih := qmk_bit p hd k (by omega)
    rw [qmk, qt_or _ _ hd, Bool.or_eq_true, ih]
    by_cases h : p k = true
    · rw [if_pos h, qt_qb (by omega) hd]
      simp only [decide_eq_true_eq]
      constructor
      · rintro (⟨h1, h2⟩ | rfl)
        · exact ⟨by omega, h2⟩
        · exact ⟨by omega, h⟩
      · rintro ⟨h1, h2⟩
        by_cases e : d = k
        · exact Or.inr e
        · exact Or.inl ⟨by omega, h2⟩
    · rw [if_neg h, qt_0 d hd]
      constructor
      · rintro (⟨h1, h2⟩ | q)
        · exact ⟨by omega, h2⟩
        · cases q
      · rintro ⟨h1, h2⟩
        by_cases e : d = k
        · subst e; exact absurd h2 h
        · exact Or.inl ⟨by omega, h2⟩
theorem qset_bit {g : qG} (hn : qn g ≤ 12) {c d : Nat} (hc : c < qn g) (hd : d < 32) : qt (qset g c) d = true ↔ d < qn g ∧ (qall g c d = true ∨ d = c) := by
  unfold qset
  rw [qmk_bit _ hd _ (by omega)]
  simp
/-- only the cells' bits of a set matter -/
theorem qwk_congr {g : qG} {s1 s2 : Int32} {r : Nat → Int32} (h : ∀ d, d < qn g → qt s1 d = qt s2 d) : ∀ k, k ≤ qm g → qwk g s1 r k = qwk g s2 r k
  | 0, _ => rfl
  | k + 1, hk => by
    have ih := qwk_congr (r := r) h k (by omega)
    show (if qfn g (qwk g s1 r k).1 (qwk g s1 r k).2 (qo g k) = true then _ else _) = (if qfn g (qwk g s2 r k).1 (qwk g s2 r k).2 (qo g k) = true then _ else _)
    rw [ih, h _ (qm_lt (g := g) (by omega))]
theorem qrt_congr {n : Nat} {s1 s2 : Int32} {r : Nat → Int32} (h : ∀ d, d < n → qt s1 d = qt s2 d) : qrt r n s1 = qrt r n s2 := by
  unfold qrt
  rw [qwk_congr (g := qg r n) h _ (Nat.le_refl _)]
theorem qcl_set {g : qG} (hn : qn g ≤ 12) {c : Nat} (hc : c < qn g) : qcl g (qset g c) := by
  intro x s hx hs hs12 hb
  have h1 := (qset_bit hn hc (d := x) (by omega)).mp hb
  have h2 : qt (qdir g x) s = true := (qdir_bit g x hs12).mpr hs
  have h3 : s < qn g := qdir_lt hn (by omega) h2
  refine (qset_bit hn hc (by omega)).mpr ⟨h3, Or.inl ?_⟩
  rcases h1.2 with h | h
  · exact qall_tr hx h (qall_dir h2)
  · subst h
    exact qall_dir h2
theorem qg_sv {r : Nat → Int32} {n : Nat} : qg (qsv r) n = qg r n := qg_up (by intro c; omega)
