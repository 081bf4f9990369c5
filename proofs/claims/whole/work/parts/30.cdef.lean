/-! ===== the class's side: its cells' layout, a state's rows, the graph, the mask of fresh cells ===== -/
def zLG (Y : gL) (go : Nat) : Prop := gK Y go = 2 ∧ gK Y (gF Y go 0) = 5 ∧ gK Y (gF Y go 1) = 6 ∧ gK Y (gF Y go 2) = 7 ∧ gK Y (gF Y go 3) = 8 ∧ gK Y (gF Y go 4) = 9 ∧ gK Y (gF Y go 5) = 10
/-- whose state a cell belongs to -/
def zO (Y : gL) (a : Nat) : Nat := gF Y a 20
def zLS (Y : gL) : Prop := ∀ t, gK Y t = 11 → gK Y (gF Y t 0) = 12 ∧ gK Y (gF Y t 5) = 13 ∧ zO Y t = t ∧ zO Y (gF Y t 5) = t ∧ zO Y (gF Y t 0) = t
def zLC (Y : gL) (nb : Nat) : Prop := gK Y nb = 1 ∧ gK Y (gF Y nb 0) = 11 ∧ gK Y (gF Y nb 1) = 3 ∧ gK Y (gF Y nb 3) = 4 ∧ zLG Y (gF Y nb 4) ∧ zLS Y
/-- a state's cells -/
def zCs (Y : gL) (ρ : Nat → Nat → Nat) (t : Nat) : Prop := ∀ i, i < 12 → gK Y (ρ (gF Y t 0) i) = 14 ∧ zO Y (ρ (gF Y t 0) i) = t ∧ ∀ j, j < 12 → ρ (gF Y t 0) i = ρ (gF Y t 0) j → i = j
/-- all references are in order -/
def zRf (Y : gL) (nb : Nat) (ρ : Nat → Nat → Nat) : Prop := (∀ t, gK Y t = 11 → zCs Y ρ t) ∧ ∀ k, k < 4 → gK Y (ρ (gF Y nb 1) k) = 11 ∧ ρ (gF Y nb 1) k ≠ gF Y nb 0 ∧ ∀ j, j < 4 → ρ (gF Y nb 1) k = ρ (gF Y nb 1) j → k = j
/-- a result as the class writes it -/
def zenc (x : Int32) : Int32 := if 9999 < x then x - 10000 else x
/-- a cell of the class, and block i of the row -/
def zC (F : Nat → Int32) (r : Nat → Int32) (i : Nat) : Prop := F 0 = r (17 + 10 * i + 0) ∧ F 1 = r (17 + 10 * i + 1) ∧ F 2 = r (17 + 10 * i + 2) ∧ F 3 = r (17 + 10 * i + 3) ∧ F 5 = r (17 + 10 * i + 5) ∧ F 8 = r (17 + 10 * i + 8) ∧ (r (17 + 10 * i + 5) ≠ 0 → F 4 = zenc (r (17 + 10 * i + 4)) ∧ F 6 = r (17 + 10 * i + 6) ∧ F 7 = r (17 + 10 * i + 7))
/-- a state of the class, and the row, but for the cells that ran last -/
def zB (Y : gL) (σ : gS) (t : Nat) (r : Nat → Int32) (n : Nat) : Prop := r 0 = nI n ∧ n ≤ 12 ∧ σ.1 t 1 = nI n ∧ σ.1 t 2 = r 1 ∧ σ.1 t 3 = r 3 ∧ σ.1 t 4 = r 2 ∧ ∀ i, i < n → zC (σ.1 (σ.2.1 (gF Y t 0) i)) r i
/-- the cells that ran last -/
def zL (Y : gL) (σ : gS) (t : Nat) (r : Nat → Int32) : Prop := ∃ k, k ≤ 12 ∧ r 4 = nI k ∧ σ.1 t 6 = nI k ∧ ∀ j, j < k → σ.1 (gF Y t 5) j = r (5 + j)
/-- the cells of a state's own -/
def zW (Y : gL) (t a : Nat) : Prop := (gK Y a = 11 ∨ gK Y a = 13 ∨ gK Y a = 14) ∧ zO Y a = t
/-- only the ints of some cells changed -/
def zN (A : Nat → Prop) (σ τ : gS) : Prop := τ.2 = σ.2 ∧ ∀ a, ¬ A a → τ.1 a = σ.1 a
theorem zN.rf {A : Nat → Prop} {σ : gS} : zN A σ σ := ⟨rfl, fun _ _ => rfl⟩
theorem zN.tr {A : Nat → Prop} {σ τ υ : gS} (h1 : zN A σ τ) (h2 : zN A τ υ) : zN A σ υ := ⟨h2.1.trans h1.1, fun a ha => (h2.2 a ha).trans (h1.2 a ha)⟩
theorem zN.mono {A B : Nat → Prop} {σ τ : gS} (h : zN A σ τ) (hs : ∀ a, A a → B a) : zN B σ τ := ⟨h.1, fun a ha => h.2 a (fun q => ha (hs _ q))⟩
theorem zN.put {A : Nat → Prop} {σ τ : gS} (h : zN A σ τ) {a k : Nat} {v : Int32} (ha : A a) : zN A σ (uI τ a k v) := ⟨h.1, fun b hb => by
  rw [uI_ne (fun e => hb (by rw [e]; exact ha))]
  exact h.2 b hb⟩
theorem gEq.zN {Y : gL} {rs : List Nat} {σ τ : gS} (h : gEq Y rs σ τ) : zN (fun a => gK Y a ∈ rs) σ τ := h
theorem zLS.w0 {Y : gL} (h : zLS Y) {t : Nat} (ht : gK Y t = 11) : zW Y t t := ⟨Or.inl ht, (h t ht).2.2.1⟩
theorem zLS.w5 {Y : gL} (h : zLS Y) {t : Nat} (ht : gK Y t = 11) : zW Y t (gF Y t 5) := ⟨Or.inr (Or.inl (h t ht).2.1), (h t ht).2.2.2.1⟩
theorem zCs.w {Y : gL} {ρ : Nat → Nat → Nat} {t : Nat} (h : zCs Y ρ t) {i : Nat} (hi : i < 12) : zW Y t (ρ (gF Y t 0) i) := ⟨Or.inr (Or.inr (h i hi).1), (h i hi).2.1⟩
theorem zW.ne {Y : gL} {t u a : Nat} (h : zW Y t a) (hn : t ≠ u) : ¬ zW Y u a := fun q => hn (h.2.symm.trans q.2)
theorem zW.role {Y : gL} {t a k : Nat} (h : zW Y t a) (hk : gK Y a = k) (h1 : k ≠ 11) (h2 : k ≠ 13) (h3 : k ≠ 14) : False := by
  rw [zW, hk] at h
  rcases h.1 with q | q | q
  · exact h1 q
  · exact h2 q
  · exact h3 q
theorem zW.no {Y : gL} {t a : Nat} {rs : List Nat} (h : zW Y t a) (h1 : 11 ∉ rs) (h2 : 13 ∉ rs) (h3 : 14 ∉ rs) : gK Y a ∉ rs := by
  rcases h.1 with q | q | q <;> rw [q] <;> assumption
/-- what is told of a state holds when its own cells are as before -/
theorem zB.same {Y : gL} {σ τ : gS} {t : Nat} {r : Nat → Int32} {n : Nat} (h : zB Y σ t r n) (hS : zLS Y) (ht : gK Y t = 11) (hc : zCs Y σ.2.1 t) (he : τ.2 = σ.2) (hw : ∀ a, zW Y t a → τ.1 a = σ.1 a) : zB Y τ t r n := by
  obtain ⟨h0, h1, h2, h3, h4, h5, h6⟩ := h
  have e := hw _ (hS.w0 ht)
  refine ⟨h0, h1, by rw [e]; exact h2, by rw [e]; exact h3, by rw [e]; exact h4, by rw [e]; exact h5, fun i hi => ?_⟩
  rw [he, hw _ (hc.w (by omega))]
  exact h6 i hi
theorem zL.same {Y : gL} {σ τ : gS} {t : Nat} {r : Nat → Int32} (h : zL Y σ t r) (hS : zLS Y) (ht : gK Y t = 11) (hw : ∀ a, zW Y t a → τ.1 a = σ.1 a) : zL Y τ t r := by
  obtain ⟨k, h1, h2, h3, h4⟩ := h
  exact ⟨k, h1, h2, by rw [hw _ (hS.w0 ht)]; exact h3, fun j hj => by rw [hw _ (hS.w5 ht)]; exact h4 j hj⟩
/-- the saved states -/
def zP (Y : gL) (nb : Nat) (σ : gS) (P : Nat → Nat → Int32) (q : Nat) : Prop := q ≤ 4 ∧ σ.1 nb 2 = nI q ∧ ∀ j, j < q → ∃ n, zB Y σ (σ.2.1 (gF Y nb 1) j) (P j) n ∧ zL Y σ (σ.2.1 (gF Y nb 1) j) (P j)
/-- the definitions, as a state of the class holds them -/
def zD (Y : gL) (σ : gS) (t : Nat) (g : qG) : Prop := qn g ≤ 12 ∧ σ.1 t 1 = nI (qn g) ∧ ∀ i, i < qn g → (σ.1 (σ.2.1 (gF Y t 0) i) 0 = qV g i ∧ σ.1 (σ.2.1 (gF Y t 0) i) 2 = qL g i ∧ σ.1 (σ.2.1 (gF Y t 0) i) 3 = qR g i) ∧ (∃ v, v < 10 ∧ qV g i = nI v) ∧ (∃ x, x < 110 ∧ qL g i = nI x) ∧ (∃ y, y < 110 ∧ qR g i = nI y)
def zk (k : Nat) : Int32 := if k < 12 then nI k else -1
/-- what the graph's arrays hold -/
def zG (Y : gL) (σ : gS) (go : Nat) (g : qG) : Prop := (∀ v, v < 10 → σ.1 (gF Y go 0) v = qdf g (nI v)) ∧ (∀ v, v < 10 → σ.1 (gF Y go 1) v = zk (qonl (qdf g (nI v)))) ∧ (∀ i, i < qn g → σ.1 (gF Y go 2) i = qdir g i) ∧ (∀ i d, i < qn g → d < qn g → qt (σ.1 (gF Y go 3) i) d = qall g i d) ∧ (∀ i, i < qn g → σ.1 (gF Y go 4) i = qw g i) ∧ σ.1 go 6 = nI (qm g) ∧ ∀ k, k < qm g → σ.1 (gF Y go 5) k = nI (qo g k)
/-- the mask x has the bits that fr tells -/
def zM (x : Int32) (fr : Nat → Bool) : Prop := ∀ d, d < 32 → qt x d = fr d
/-- the references, the saved states, the error counts -/
def zH (Y : gL) (nb : Nat) (σ : gS) (P : Nat → Nat → Int32) (q : Nat) (cn : Nat → Int32) : Prop := zRf Y nb σ.2.1 ∧ zP Y nb σ P q ∧ σ.1 (gF Y nb 3) = cn
/-- the class's cells hold the state a -/
def zA (Y : gL) (nb : Nat) (σ : gS) (a : qA) : Prop := zH Y nb σ a.2.2.1 a.2.2.2.1 a.2.2.2.2 ∧ zB Y σ (gF Y nb 0) a.1 a.2.1 ∧ zL Y σ (gF Y nb 0) a.1 ∧ zG Y σ (gF Y nb 4) (qg a.1 a.2.1) ∧ zM (σ.1 nb 5) (qF (qg a.1 a.2.1) a.1)
theorem zB.D {Y : gL} {σ : gS} {t : Nat} {r : Nat → Int32} {n : Nat} (h : zB Y σ t r n) (hq : ∀ i, i < n → qCI r i) : zD Y σ t (qg r n) := by
  obtain ⟨h0, h1, h2, -, -, -, h6⟩ := h
  refine ⟨h1, h2, fun i hi => ⟨⟨(h6 i hi).1, (h6 i hi).2.2.1, (h6 i hi).2.2.2.1⟩, (hq i hi).1, (hq i hi).2.1, (hq i hi).2.2.1⟩⟩
theorem zD.eq {Y : gL} {σ τ : gS} {t : Nat} {g : qG} {rs : List Nat} (h : zD Y σ t g) (ht : gK Y t = 11) (hc : zCs Y σ.2.1 t) (he : gEq Y rs σ τ) (h1 : 11 ∉ rs) (h2 : 14 ∉ rs) : zD Y τ t g := by
  refine ⟨h.1, by rw [he.at ht h1]; exact h.2.1, fun i hi => ?_⟩
  rw [he.1, he.at (hc i (by have := h.1; omega)).1 h2]
  exact h.2.2 i hi
theorem zG.same {Y : gL} {σ τ : gS} {go : Nat} {g : qG} (h : zG Y σ go g) (hG : zLG Y go) (hw : ∀ a, gK Y a ∈ [2, 5, 6, 7, 8, 9, 10] → τ.1 a = σ.1 a) : zG Y τ go g := by
  obtain ⟨g1, g2, g3, g4, g5, g6, g7⟩ := hG
  have e0 := hw (gF Y go 0) (by rw [g2]; decide)
  have e1 := hw (gF Y go 1) (by rw [g3]; decide)
  have e2 := hw (gF Y go 2) (by rw [g4]; decide)
  have e3 := hw (gF Y go 3) (by rw [g5]; decide)
  have e4 := hw (gF Y go 4) (by rw [g6]; decide)
  have e5 := hw (gF Y go 5) (by rw [g7]; decide)
  have e6 := hw go (by rw [g1]; decide)
  unfold zG
  rw [e0, e1, e2, e3, e4, e5, e6]
  exact h
/-- the saved states and the counts hold when only the state, the graph and the mask changed -/
def zX (Y : gL) (nb a : Nat) : Prop := zW Y (gF Y nb 0) a ∨ gK Y a ∈ [1, 2, 5, 6, 7, 8, 9, 10]
theorem zH.fr {Y : gL} {nb : Nat} {σ τ : gS} {P : Nat → Nat → Int32} {q : Nat} {cn : Nat → Int32} (h : zH Y nb σ P q cn) (hM : zLC Y nb) (he : zN (zX Y nb) σ τ) (h2 : τ.1 nb 2 = σ.1 nb 2) : zH Y nb τ P q cn := by
  obtain ⟨hR, ⟨h3, h4, h5⟩, h6⟩ := h
  obtain ⟨m1, m2, m3, m4, m5, m6⟩ := hM
  have nx : ∀ k, k < 4 → ∀ a, zW Y (σ.2.1 (gF Y nb 1) k) a → τ.1 a = σ.1 a := fun k hk a ha => he.2 a (by
    rintro (z | z)
    · exact ha.ne (hR.2 k hk).2.1 z
    · exact ha.no (by decide) (by decide) (by decide) z)
  refine ⟨by rw [he.1]; exact hR, ⟨h3, h2.trans h4, fun j hj => ?_⟩, ?_⟩
  · obtain ⟨n, b1, b2⟩ := h5 j hj
    have hj4 : j < 4 := by omega
    rw [he.1]
    exact ⟨n, b1.same m6 (hR.2 j hj4).1 (hR.1 _ (hR.2 j hj4).1) he.1 (nx j hj4), b2.same m6 (hR.2 j hj4).1 (nx j hj4)⟩
  · rw [he.2 _ (by
      rintro (z | z)
      · exact z.role m4 (by decide) (by decide) (by decide)
      · rw [m4] at z; revert z; decide)]
    exact h6
/-! pieces: masks, sources -/
theorem zk_lt {k : Nat} (h : k < 12) : zk k = nI k := if_pos h
theorem zk_12 {k : Nat} (h : k = 12) : zk k = -1 := if_neg (by omega)
theorem zk_ge {k : Nat} (h : ¬ k < 12) : zk k = -1 := if_neg h
theorem zs_lo {g : qG} {y : Nat} (h : y < 100) : qsrc g (nI y) = 12 := if_pos (nI_lt h (by omega))
theorem zs_hi {g : qG} {y : Nat} (h : 100 ≤ y) (h2 : y < 110) : qsrc g (nI y) = qonl (qdf g (nI (y - 100))) := by
  have e : nI y - 100 = nI (y - 100) := pk_sub (b := 100) h
  unfold qsrc
  rw [if_neg (show ¬ nI y < 100 from nI_nlt h (by omega)), e]
theorem zu_lo {g : qG} {y : Nat} (h : y < 100) : qused g (nI y) = 0 := if_pos (nI_lt h (by omega))
theorem zu_hi {g : qG} {y : Nat} (h : 100 ≤ y) (h2 : y < 110) : qused g (nI y) = qdf g (nI (y - 100)) := by
  have e : nI y - 100 = nI (y - 100) := pk_sub (b := 100) h
  unfold qused
  rw [if_neg (show ¬ nI y < 100 from nI_nlt h (by omega)), e]
theorem zund {g : qG} {y : Nat} (h2 : y < 110) : qundB g (nI y) = true ↔ 100 ≤ y ∧ qused g (nI y) = 0 := by
  unfold qundB
  rcases Nat.lt_or_ge y 100 with h | h
  · have := nI_lt h (show (100 : Nat) < 2 ^ 31 by omega)
    simp only [Bool.and_eq_true, decide_eq_true_eq]
    constructor
    · rintro ⟨q, -⟩; exact absurd this q
    · rintro ⟨q, -⟩; omega
  · have e : nI y - 100 = nI (y - 100) := pk_sub (b := 100) h
    rw [zu_hi h h2, e]
    simp only [Bool.and_eq_true, decide_eq_true_eq]
    exact ⟨fun q => ⟨h, q.2⟩, fun q => ⟨nI_nlt h (by omega), q.2⟩⟩
theorem zdir {g : qG} {i : Nat} : qdo g (qL g i) ||| qdo g (qR g i) = qdir g i := rfl
theorem zand_ne {x y : Int32} : x &&& y ≠ 0 ↔ ∃ d, d < 32 ∧ qt x d = true ∧ qt y d = true := by
  constructor
  · intro h
    apply Classical.byContradiction
    intro q
    apply h
    apply qt_ext
    intro d hd
    rw [qt_and _ _ hd, qt_0 d hd]
    cases e1 : qt x d
    · rfl
    · cases e2 : qt y d
      · rfl
      · exact absurd ⟨d, hd, e1, e2⟩ q
  · rintro ⟨d, hd, h1, h2⟩ h
    have h3 : qt (x &&& y) d = false := by rw [h]; exact qt_0 d hd
    rw [qt_and _ _ hd, h1, h2] at h3
    cases h3
theorem zand_0 {x y : Int32} (h : x &&& y = 0) : ¬ x &&& y ≠ 0 := fun q => q h
/-- a set gets a second member: no longer one alone -/
theorem zonl_or {s1 : Int32} {i : Nat} (hi : i < 12) (h0 : s1 ≠ 0) (hb : ∀ d, d < 32 → qt s1 d = true → d < i) : qonl (s1 ||| qb i) = 12 := by
  refine qonl_none (fun j hj e => ?_)
  have h1 : ∃ d, d < 32 ∧ qt s1 d = true := by
    apply Classical.byContradiction
    intro q
    apply h0
    apply qt_ext
    intro d hd
    rw [qt_0 d hd]
    cases e1 : qt s1 d
    · rfl
    · exact absurd ⟨d, hd, e1⟩ q
  obtain ⟨d, hd, h2⟩ := h1
  have hdi := hb d hd h2
  have e1 : qt (s1 ||| qb i) d = qt (qb j) d := by rw [e]
  have e2 : qt (s1 ||| qb i) i = qt (qb j) i := by rw [e]
  rw [qt_or _ _ hd, h2, qt_qb (d := j) (by omega) hd] at e1
  rw [qt_or _ _ (by omega), qt_qb (d := i) (by omega) (by omega), qt_qb (d := j) (by omega) (by omega)] at e2
  simp at e1 e2
  omega
theorem z0_or {x : Int32} : 0 ||| x = x := by
  apply qt_ext
  intro d hd
  rw [qt_or _ _ hd, qt_0 d hd]
  rfl
theorem zor_0 {x : Int32} : x ||| 0 = x := by
  apply qt_ext
  intro d hd
  rw [qt_or _ _ hd, qt_0 d hd]
  simp
/-- the definers, one cell further -/
theorem zdfn_s {g : qG} {i x v : Nat} (hV : qV g i = nI x) (hx : x < 10) (hv : v < 10) : qdfn (qV g) (nI v) (i + 1) = if v = x then qdfn (qV g) (nI v) i ||| qb i else qdfn (qV g) (nI v) i := by
  rw [qdfn, hV]
  by_cases e : v = x
  · subst e
    rw [if_pos rfl, if_pos rfl]
  · rw [if_neg e, if_neg (fun q => e ((nI_eq (by omega) (by omega)).mp q).symm), zor_0]
theorem zdfn_lt {g : qG} {x : Int32} {i : Nat} (hi : i ≤ 12) : ∀ d, d < 32 → qt (qdfn (qV g) x i) d = true → d < i := fun d hd h => ((qdfn_bit _ _ hd i (by omega)).mp h).1
theorem zsole0 {g : qG} {x : Int32} {i : Nat} (hi : i < 12) (h : qdfn (qV g) x i = 0) : nI i = zk (qonl (qdfn (qV g) x i ||| qb i)) := by
  rw [h, z0_or, qonl_at hi rfl, zk_lt hi]
theorem zsole1 {g : qG} {x : Int32} {i : Nat} (hi : i < 12) (h : ¬ qdfn (qV g) x i = 0) : (-1 : Int32) = zk (qonl (qdfn (qV g) x i ||| qb i)) := by
  rw [zonl_or hi h (zdfn_lt (by omega)), zk_12 rfl]
/-- sole definer against a cell -/
theorem zown {x : Int32} {i : Nat} (hi : i < 12) : zk (qonl x) = nI i ↔ x = qb i := by
  constructor
  · intro h
    have h1 := qonl_le x
    rcases Nat.lt_or_ge (qonl x) 12 with h2 | h2
    · rw [zk_lt h2, nI_eq (by omega) (by omega)] at h
      rw [qonl_yes h2, h]
    · rw [zk_12 (by omega)] at h
      exact absurd h.symm (nI_neg (by omega) (by decide))
  · intro h
    rw [qonl_at hi h, zk_lt hi]
/-- errors spread: what the mask says -/
theorem zbad {g : qG} (hn : qn g ≤ 12) {w : Nat → Int32} {x : Int32} : qbad g w x = true ↔ ∃ d, d < qn g ∧ qt (qused g x) d = true ∧ w d ≠ 0 := by
  unfold qbad
  simp only [decide_eq_true_eq]
  rw [qfst_lt]
  simp only [Bool.and_eq_true, decide_eq_true_eq]
theorem zused_lt {g : qG} (hn : qn g ≤ 12) {x : Int32} {d : Nat} (hd : d < 32) (h : qt (qused g x) d = true) : d < qn g := by
  unfold qused at h
  split at h
  · rw [qt_0 d hd] at h; cases h
  · exact ((qdf_bit hn _ hd).mp h).1
theorem zbads {g : qG} (hn : qn g ≤ 12) {w : Nat → Int32} {x y M : Int32} (hM : ∀ d, d < 32 → qt M d = decide (w d ≠ 0)) : (qused g x ||| qused g y) &&& M ≠ 0 ↔ (qbad g w x = true ∨ qbad g w y = true) := by
  rw [zand_ne, zbad hn, zbad hn]
  constructor
  · rintro ⟨d, hd, h1, h2⟩
    rw [hM d hd] at h2
    rw [qt_or _ _ hd, Bool.or_eq_true] at h1
    rcases h1 with h1 | h1
    · exact Or.inl ⟨d, zused_lt hn hd h1, h1, of_decide_eq_true h2⟩
    · exact Or.inr ⟨d, zused_lt hn hd h1, h1, of_decide_eq_true h2⟩
  · rintro (⟨d, hd, h1, h2⟩ | ⟨d, hd, h1, h2⟩)
    · exact ⟨d, by omega, by rw [qt_or _ _ (by omega), h1]; rfl, by rw [hM d (by omega)]; exact decide_eq_true h2⟩
    · exact ⟨d, by omega, by rw [qt_or _ _ (by omega), h1, Bool.or_true], by rw [hM d (by omega)]; exact decide_eq_true h2⟩
theorem zmask_put {M : Int32} {w : Nat → Int32} {i : Nat} {v : Int32} (hi : i < 32) (hv : v ≠ 0) (hM : ∀ d, d < 32 → qt M d = decide (w d ≠ 0)) : ∀ d, d < 32 → qt (M ||| qb i) d = decide (qup w i v d ≠ 0) := by
  intro d hd
  rw [qt_or _ _ hd, hM d hd, qt_qb hi hd]
  unfold qup
  by_cases e : d = i
  · subst e
    simp [hv]
  · simp [e]
/-- a mask over the first i cells -/
def zlow (f : Nat → Int32) (i : Nat) : Nat → Int32 := fun d => if d < i then f d else 0
theorem zlow_y {f : Nat → Int32} {i : Nat} : zlow f (i + 1) = qup (zlow f i) i (f i) := by
  funext d
  unfold zlow qup
  by_cases e : d = i
  · subst e
    rw [if_pos (by omega), if_pos rfl]
  · rw [if_neg e]
    show (if d < i + 1 then f d else 0) = if d < i then f d else 0
    by_cases h : d < i
    · rw [if_pos h, if_pos (by omega)]
    · rw [if_neg h, if_neg (by omega)]
theorem zlow_n {f : Nat → Int32} {i : Nat} (h : f i = 0) : zlow f (i + 1) = zlow f i := by
  rw [zlow_y]
  funext d
  unfold qup zlow
  by_cases e : d = i
  · subst e
    rw [if_pos rfl, if_neg (by omega), h]
  · rw [if_neg e]
