theorem qfr_t {f : Bool} {v : Int32} (h : v = if f = true then 1 else 0) (h0 : ¬ v = 0) : f = true := by
  cases f
  · exact absurd h h0
  · rfl
theorem qfr_f {f : Bool} {v : Int32} (h : v = if f = true then 1 else 0) (h0 : v = 0) : f = false := by
  cases f
  · rfl
  · exact absurd (h.symm.trans h0) (by decide)
theorem uI_qub {σ : gS} {a i n : Nat} {v : Int32} {f : Nat → Bool} {b : Bool} (h : ∀ c, c < n → σ.1 a c = if f c = true then 1 else 0) (hv : v = if b = true then 1 else 0) (c : Nat) (hc : c < n) : (uI σ a i v).1 a c = if qub f i b c = true then 1 else 0 := by
  unfold qub
  by_cases e : c = i
  · subst e
    rw [uI_at, if_pos rfl]
    exact hv
  · rw [uI_off e, if_neg e]
    exact h c hc
theorem qout4 {x : Int32} (h0 : ¬ x = 0) (h1 : ¬ x = 1) (h2 : ¬ x = 2) (h3 : ¬ x = 3) (h4 : ¬ x = 4) : x.toInt < 0 ∨ 4 < x.toInt := by
  have e0 : ¬ x.toInt = 0 := lv_neT h0 (by decide)
  have e1 : ¬ x.toInt = 1 := lv_neT h1 (by decide)
  have e2 : ¬ x.toInt = 2 := lv_neT h2 (by decide)
  have e3 : ¬ x.toInt = 3 := lv_neT h3 (by decide)
  have e4 : ¬ x.toInt = 4 := lv_neT h4 (by decide)
  omega
/-! rows under a put -/
theorem qup_at {f : Nat → Int32} {k : Nat} {v : Int32} : qup f k v k = v := by simp [qup]
theorem qup_off {f : Nat → Int32} {k j : Nat} {v : Int32} (h : j ≠ k) : qup f k v j = f j := by simp [qup, h]
theorem gRow.now {Y : gL} {mo : Nat} {σ : gS} {r : Nat → Int32} {n k : Nat} {v : Int32} (h : gRow Y mo σ r n) (hk : k ≠ 0) : gRow Y mo (uI σ (gF Y mo 0) k v) (qup r k v) n := by
  refine ⟨?_, ?_, h.2.2⟩
  · rw [← h.1]
    funext j
    simp [uI, qup]
  · rw [qup_off hk.symm]
    exact h.2.1
theorem qg_up {r : Nat → Int32} {n k : Nat} {v : Int32} (h : ∀ c : Nat, 17 + 10 * c + 0 ≠ k ∧ 17 + 10 * c + 2 ≠ k ∧ 17 + 10 * c + 3 ≠ k) : qg (qup r k v) n = qg r n := by
  have e0 : (fun c => qup r k v (17 + 10 * c + 0)) = fun c => r (17 + 10 * c + 0) := by funext c; rw [qup_off (h c).1]
  have e2 : (fun c => qup r k v (17 + 10 * c + 2)) = fun c => r (17 + 10 * c + 2) := by funext c; rw [qup_off (h c).2.1]
  have e3 : (fun c => qup r k v (17 + 10 * c + 3)) = fun c => r (17 + 10 * c + 3) := by funext c; rw [qup_off (h c).2.2]
  unfold qg
  rw [e0, e2, e3]
theorem qr1_off {g : qG} {r : Nat → Int32} {c k : Nat} (h2 : k ≠ 2) (h4 : k ≠ 17 + 10 * c + 4) (h5 : k ≠ 17 + 10 * c + 5) : qr1 g r c k = r k := by
  unfold qr1
  split
  · rw [qup_off h5, qup_off h4, qup_off h2]
  · rfl
theorem qg_r1 {g : qG} {r : Nat → Int32} {c n : Nat} : qg (qr1 g r c) n = qg r n := by
  unfold qr1
  split
  · rw [qg_up (by intro d; omega), qg_up (by intro d; omega), qg_up (by intro d; omega)]
  · rfl
theorem qg_r2 {g : qG} {r : Nat → Int32} {c n : Nat} : qg (qr2 g r c) n = qg r n := by
  unfold qr2
  rw [qg_up (by intro d; omega), qg_r1]
theorem qg_r3 {g : qG} {r : Nat → Int32} {c n : Nat} : qg (qr3 g r c) n = qg r n := by
  unfold qr3
  rw [qg_up (by intro d; omega), qg_r2]
theorem qr2_off {g : qG} {r : Nat → Int32} {c k : Nat} (h2 : k ≠ 2) (h4 : k ≠ 17 + 10 * c + 4) (h5 : k ≠ 17 + 10 * c + 5) (h6 : k ≠ 17 + 10 * c + 6) : qr2 g r c k = r k := by
  unfold qr2
  rw [qup_off h6, qr1_off h2 h4 h5]
theorem qr3_off {g : qG} {r : Nat → Int32} {c k : Nat} (h2 : k ≠ 2) (h4 : k ≠ 17 + 10 * c + 4) (h5 : k ≠ 17 + 10 * c + 5) (h6 : k ≠ 17 + 10 * c + 6) (h7 : k ≠ 17 + 10 * c + 7) : qr3 g r c k = r k := by
  unfold qr3
  rw [qup_off h7, qr2_off h2 h4 h5 h6]
theorem qr4_off {g : qG} {r : Nat → Int32} {c k : Nat} (h2 : k ≠ 2) (h3 : k ≠ 3) (h4 : k ≠ 17 + 10 * c + 4) (h5 : k ≠ 17 + 10 * c + 5) (h6 : k ≠ 17 + 10 * c + 6) (h7 : k ≠ 17 + 10 * c + 7) (h8 : k ≠ 17 + 10 * c + 8) : qr4 g r c k = r k := by
  unfold qr4
  rw [qup_off h3, qup_off h8, qr3_off h2 h4 h5 h6 h7]
theorem qg_r4 {g : qG} {r : Nat → Int32} {c n : Nat} : qg (qr4 g r c) n = qg r n := by
  unfold qr4
  rw [qg_up (by intro d; omega), qg_up (by intro d; omega), qg_r3]
theorem qg_run {g : qG} {r : Nat → Int32} {c n k : Nat} (hk : k < 12) (h : r 4 = nI k) : qg (qrun g r c) n = qg r n := by
  unfold qrun
  rw [h, nI_clamp (by omega)]
  rw [qg_up (by intro d; omega), qg_up (by intro d; omega), qg_r4]
theorem qrun_eq {g : qG} {r : Nat → Int32} {c k : Nat} (hk : k < 12) (h : r 4 = nI k) : qrun g r c = qup (qup (qr4 g r c) (5 + k) (nI c)) 4 (nI (k + 1)) := by
  unfold qrun
  rw [h, nI_clamp (by omega), ← nI_1]
/-- the saved rows behind one more saving -/
def qpush (P : Nat → Nat → Int32) (q : Nat) (r : Nat → Int32) : Nat → Nat → Int32 := if q = 4 then (fun j => if j < 3 then P (j + 1) else r) else (fun j => if j < q then P j else r)
def qpn (q : Nat) : Nat := if q = 4 then 4 else q + 1
/-- the model's saved rows are P 0 .. P (q - 1) -/
def gPast (Y : gL) (mo : Nat) (σ : gS) (P : Nat → Nat → Int32) (q : Nat) : Prop := q ≤ 4 ∧ σ.1 mo 2 = nI q ∧ ∀ j i, j < q → i < 137 → σ.1 (gF Y mo 1) (137 * j + i) = P j i
theorem gPast.eq {Y : gL} {mo : Nat} {σ τ : gS} {P : Nat → Nat → Int32} {q : Nat} {rs : List Nat} (h : gPast Y mo σ P q) (hM : gLM Y mo) (he : gEq Y rs σ τ) (h2 : τ.1 mo 2 = σ.1 mo 2) (h17 : 17 ∉ rs) : gPast Y mo τ P q := ⟨h.1, h2.trans h.2.1, fun j i hj hi => by rw [he.at (gM2 hM) h17]; exact h.2.2 j i hj hi⟩
