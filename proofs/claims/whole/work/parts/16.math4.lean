/-! ===== what holds of every row that calls can reach: counts small, versions small, results in range ===== -/
def qrok (v : Int32) : Prop := (¬ v < -9999 ∧ ¬ 9999 < v) ∨ v = 20005 ∨ v = 20006 ∨ v = 20007
def qCI (r : Nat → Int32) (c : Nat) : Prop := (∃ v, v < 10 ∧ r (17 + 10 * c + 0) = nI v) ∧ (∃ x, x < 110 ∧ r (17 + 10 * c + 2) = nI x) ∧ (∃ y, y < 110 ∧ r (17 + 10 * c + 3) = nI y) ∧ (r (17 + 10 * c + 5) ≠ 0 → qrok (r (17 + 10 * c + 4)) ∧ (r (17 + 10 * c + 2) < 100 → r (17 + 10 * c + 6) = 0) ∧ (r (17 + 10 * c + 3) < 100 → r (17 + 10 * c + 7) = 0))
/-- versions up to q, q at most B -/
def qVI (r : Nat → Int32) (n B : Nat) : Prop := ∃ q, q ≤ B ∧ r 2 = nI q ∧ ∀ c, c < n → ∃ u, u ≤ q ∧ r (17 + 10 * c + 5) = nI u
def qRI (r : Nat → Int32) (n B : Nat) : Prop := r 0 = nI n ∧ n ≤ 12 ∧ (r 1 = 0 ∨ r 1 = 1) ∧ qVI r n B ∧ (∃ k, k ≤ 12 ∧ r 4 = nI k) ∧ ∀ c, c < n → qCI r c
theorem qVI.mono {r : Nat → Int32} {n B B' : Nat} (h : qVI r n B) (hB : B ≤ B') : qVI r n B' := by
  obtain ⟨q, h1, h2⟩ := h
  exact ⟨q, by omega, h2⟩
theorem qRI.mono {r : Nat → Int32} {n B B' : Nat} (h : qRI r n B) (hB : B ≤ B') : qRI r n B' := ⟨h.1, h.2.1, h.2.2.1, h.2.2.2.1.mono hB, h.2.2.2.2⟩
theorem qcmp_ok (g : qG) (r : Nat → Int32) (c : Nat) : qrok (qcmp g r c) := by
  unfold qcmp
  split
  · exact Or.inr (Or.inl rfl)
  · split
    · exact Or.inr (Or.inr (Or.inr rfl))
    · split
      · rename_i h
        exact Or.inl h
      · exact Or.inr (Or.inr (Or.inl rfl))
/-! what a run leaves in the row -/
section QR
variable {g : qG} {r : Nat → Int32} {c k : Nat}
theorem qr1_4 : qr1 g r c (17 + 10 * c + 4) = if r (17 + 10 * c + 5) = 0 ∨ r (17 + 10 * c + 4) ≠ qcmp g r c then qcmp g r c else r (17 + 10 * c + 4) := by
  unfold qr1
  split
  · rw [qup_off (by omega), qup_at]
  · rfl
theorem qr1_4' : qr1 g r c (17 + 10 * c + 4) = qcmp g r c := by
  rw [qr1_4]
  split
  · rfl
  · rename_i h
    exact Classical.byContradiction fun q => h (Or.inr q)
theorem qr1_5 : qr1 g r c (17 + 10 * c + 5) = if r (17 + 10 * c + 5) = 0 ∨ r (17 + 10 * c + 4) ≠ qcmp g r c then r 2 + 1 else r (17 + 10 * c + 5) := by
  unfold qr1
  split
  · rw [qup_at]
  · rfl
theorem qr1_2 : qr1 g r c 2 = if r (17 + 10 * c + 5) = 0 ∨ r (17 + 10 * c + 4) ≠ qcmp g r c then r 2 + 1 else r 2 := by
  unfold qr1
  split
  · rw [qup_off (by omega), qup_off (by omega), qup_at]
  · rfl
theorem qrun_of (hk : k < 12) (h4 : r 4 = nI k) {j : Nat} (hj : 16 < j) : qrun g r c j = qr4 g r c j := by
  rw [qrun_eq hk h4, qup_off (by omega), qup_off (by omega)]
theorem qrun_off (hk : k < 12) (h4 : r 4 = nI k) {j : Nat} (hj : 16 < j) (h4' : j ≠ 17 + 10 * c + 4) (h5 : j ≠ 17 + 10 * c + 5) (h6 : j ≠ 17 + 10 * c + 6) (h7 : j ≠ 17 + 10 * c + 7) (h8 : j ≠ 17 + 10 * c + 8) : qrun g r c j = r j := by
  rw [qrun_of hk h4 hj, qr4_off (by omega) (by omega) h4' h5 h6 h7 h8]
theorem qrun_4 (hk : k < 12) (h4 : r 4 = nI k) : qrun g r c (17 + 10 * c + 4) = qcmp g r c := by
  rw [qrun_of hk h4 (by omega)]
  unfold qr4 qr3 qr2
  rw [qup_off (by omega), qup_off (by omega), qup_off (by omega), qup_off (by omega), qr1_4']
theorem qrun_5 (hk : k < 12) (h4 : r 4 = nI k) : qrun g r c (17 + 10 * c + 5) = qr1 g r c (17 + 10 * c + 5) := by
  rw [qrun_of hk h4 (by omega)]
  unfold qr4 qr3 qr2
  rw [qup_off (by omega), qup_off (by omega), qup_off (by omega), qup_off (by omega)]
theorem qrun_6 (hk : k < 12) (h4 : r 4 = nI k) : qrun g r c (17 + 10 * c + 6) = qvo g (qr1 g r c) (r (17 + 10 * c + 2)) := by
  rw [qrun_of hk h4 (by omega)]
  unfold qr4 qr3
  rw [qup_off (by omega), qup_off (by omega), qup_off (by omega)]
  unfold qr2
  rw [qup_at]
theorem qrun_7 (hk : k < 12) (h4 : r 4 = nI k) : qrun g r c (17 + 10 * c + 7) = qvo g (qr2 g r c) (r (17 + 10 * c + 3)) := by
  rw [qrun_of hk h4 (by omega)]
  unfold qr4
  rw [qup_off (by omega), qup_off (by omega)]
  unfold qr3
  rw [qup_at]
theorem qrun_2 (hk : k < 12) (h4 : r 4 = nI k) : qrun g r c 2 = qr1 g r c 2 := by
  rw [qrun_eq hk h4, qup_off (by omega), qup_off (by omega)]
  unfold qr4 qr3 qr2
  rw [qup_off (by omega), qup_off (by omega), qup_off (by omega), qup_off (by omega)]
theorem qrun_l (hk : k < 12) (h4 : r 4 = nI k) : qrun g r c 4 = nI (k + 1) := by rw [qrun_eq hk h4, qup_at]
theorem qrun_01 (hk : k < 12) (h4 : r 4 = nI k) {j : Nat} (hj : j < 2) : qrun g r c j = r j := by
  rw [qrun_eq hk h4, qup_off (by omega), qup_off (by omega), qr4_off (by omega) (by omega) (by omega) (by omega) (by omega) (by omega) (by omega)]
/-- a source's version, when another cell is run -/
theorem qvo_r1 {x : Int32} (h : ¬ x < 100 → qsrc g x ≠ c) : qvo g (qr1 g r c) x = qvo g r x := by
  unfold qvo
  split
  · rfl
  · rename_i hx
    have := h hx
    exact qr1_off (by omega) (by omega) (by omega)
theorem qvo_r2 {x : Int32} (h : ¬ x < 100 → qsrc g x ≠ c) : qvo g (qr2 g r c) x = qvo g r x := by
  unfold qvo
  split
  · rfl
  · rename_i hx
    have := h hx
    exact qr2_off (by omega) (by omega) (by omega) (by omega)
theorem qvo_run (hk : k < 12) (h4 : r 4 = nI k) {x : Int32} (h : ¬ x < 100 → qsrc g x ≠ c) : qvo g (qrun g r c) x = qvo g r x := by
  unfold qvo
  split
  · rfl
  · rename_i hx
    have := h hx
    exact qrun_off hk h4 (by omega) (by omega) (by omega) (by omega) (by omega) (by omega)
theorem qVI_run {n B : Nat} (hB : B < 2 ^ 30) (hk : k < 12) (h4 : r 4 = nI k) (h : qVI r n B) : qVI (qrun g r c) n (B + 1) := by
  obtain ⟨q, h1, h2, h3⟩ := h
  by_cases hc : r (17 + 10 * c + 5) = 0 ∨ r (17 + 10 * c + 4) ≠ qcmp g r c
  · refine ⟨q + 1, by omega, ?_, fun d hd => ?_⟩
    · rw [qrun_2 hk h4, qr1_2, if_pos hc, h2, nI_1]
    · by_cases e : d = c
      · subst e
        exact ⟨q + 1, Nat.le_refl _, by rw [qrun_5 hk h4, qr1_5, if_pos hc, h2, nI_1]⟩
      · obtain ⟨u, hu, hv⟩ := h3 d hd
        exact ⟨u, by omega, by rw [qrun_off hk h4 (by omega) (by omega) (by omega) (by omega) (by omega) (by omega)]; exact hv⟩
  · refine ⟨q, by omega, ?_, fun d hd => ?_⟩
    · rw [qrun_2 hk h4, qr1_2, if_neg hc]
      exact h2
    · obtain ⟨u, hu, hv⟩ := h3 d hd
      by_cases e : d = c
      · subst e
        exact ⟨u, hu, by rw [qrun_5 hk h4, qr1_5, if_neg hc]; exact hv⟩
      · exact ⟨u, hu, by rw [qrun_off hk h4 (by omega) (by omega) (by omega) (by omega) (by omega) (by omega)]; exact hv⟩
theorem qCI_run {d : Nat} (hk : k < 12) (h4 : r 4 = nI k) (h : qCI r d) : qCI (qrun g r c) d := by
  obtain ⟨h1, h2, h3, h5⟩ := h
  have e0 : qrun g r c (17 + 10 * d + 0) = r (17 + 10 * d + 0) := qrun_off hk h4 (by omega) (by omega) (by omega) (by omega) (by omega) (by omega)
  have e2 : qrun g r c (17 + 10 * d + 2) = r (17 + 10 * d + 2) := qrun_off hk h4 (by omega) (by omega) (by omega) (by omega) (by omega) (by omega)
  have e3 : qrun g r c (17 + 10 * d + 3) = r (17 + 10 * d + 3) := qrun_off hk h4 (by omega) (by omega) (by omega) (by omega) (by omega) (by omega)
  unfold qCI
  rw [e0, e2, e3]
  refine ⟨h1, h2, h3, ?_⟩
  by_cases e : d = c
  · subst e
    intro _
    rw [qrun_4 hk h4, qrun_6 hk h4, qrun_7 hk h4]
    exact ⟨qcmp_ok _ _ _, fun q => if_pos q, fun q => if_pos q⟩
  · rw [qrun_off hk h4 (by omega) (by omega) (by omega) (by omega) (by omega) (by omega), qrun_off hk h4 (by omega) (by omega) (by omega) (by omega) (by omega) (by omega), qrun_off hk h4 (by omega) (by omega) (by omega) (by omega) (by omega) (by omega), qrun_off hk h4 (by omega) (by omega) (by omega) (by omega) (by omega) (by omega)]
    exact h5
theorem qver_pos {B u : Nat} {v : Int32} (hB : B < 2 ^ 31) (hu : u ≤ B) (hv : v = nI u) : 0 < v ↔ v ≠ 0 := by
  subst hv
  rw [← nI_0, nI_ltI (by omega) (by omega), Ne, nI_eq (by omega) (by omega)]
  omega
/-- a run cell is fresh, when its sources are -/
theorem qfn_run {n B : Nat} {fr : Nat → Bool} (hB : B < 2 ^ 30) (hk : k < 12) (h4 : r 4 = nI k) (hV : qVI r n B) (hc : c < n) (hsl : ¬ r (17 + 10 * c + 2) < 100 → qsrc g (r (17 + 10 * c + 2)) ≠ c ∧ fr (qsrc g (r (17 + 10 * c + 2))) = true) (hsr : ¬ r (17 + 10 * c + 3) < 100 → qsrc g (r (17 + 10 * c + 3)) ≠ c ∧ fr (qsrc g (r (17 + 10 * c + 3))) = true) : qfn g (qrun g r c) fr c = true := by
  have e2 : qrun g r c (17 + 10 * c + 2) = r (17 + 10 * c + 2) := qrun_off hk h4 (by omega) (by omega) (by omega) (by omega) (by omega) (by omega)
  have e3 : qrun g r c (17 + 10 * c + 3) = r (17 + 10 * c + 3) := qrun_off hk h4 (by omega) (by omega) (by omega) (by omega) (by omega) (by omega)
  have kn : ∀ (x s : Int32), (¬ x < 100 → qsrc g x ≠ c ∧ fr (qsrc g x) = true) → s = qvo g r x → qkn g (qrun g r c) fr x s = true := by
    intro x s hx hs
    unfold qkn
    by_cases hl : x < 100
    · rw [decide_eq_true hl]
      rfl
    · obtain ⟨h1, h2⟩ := hx hl
      have e5 : qrun g r c (17 + 10 * qsrc g x + 5) = r (17 + 10 * qsrc g x + 5) := qrun_off hk h4 (by omega) (by omega) (by omega) (by omega) (by omega) (by omega)
      rw [h2, e5, hs]
      unfold qvo
      rw [if_neg hl]
      simp
  obtain ⟨q, h1, h2, h3⟩ := qVI_run (g := g) (c := c) hB hk h4 hV
  obtain ⟨u, hu, hv⟩ := h3 c hc
  have hz : qrun g r c (17 + 10 * c + 5) ≠ 0 := by
    obtain ⟨q0, g1, g2, g3⟩ := hV
    rw [qrun_5 hk h4, qr1_5]
    split
    · rw [g2, nI_1]
      exact nI_ne0 (by omega) (by omega)
    · rename_i hh
      exact fun q => hh (Or.inl q)
  unfold qfn
  rw [decide_eq_true ((qver_pos (B := B + 1) (by omega) (by omega) hv).mpr hz), e2, e3, kn _ _ hsl (by rw [qrun_6 hk h4, qvo_r1 (fun h => (hsl h).1)]), kn _ _ hsr (by rw [qrun_7 hk h4, qvo_r2 (fun h => (hsr h).1)])]
  rfl
end QR
theorem qfn_congr {g : qG} {r : Nat → Int32} {f1 f2 : Nat → Bool} {c : Nat} (h2 : ¬ r (17 + 10 * c + 2) < 100 → f1 (qsrc g (r (17 + 10 * c + 2))) = f2 (qsrc g (r (17 + 10 * c + 2)))) (h3 : ¬ r (17 + 10 * c + 3) < 100 → f1 (qsrc g (r (17 + 10 * c + 3))) = f2 (qsrc g (r (17 + 10 * c + 3)))) : qfn g r f1 c = qfn g r f2 c := by
  have kn : ∀ (x s : Int32), (¬ x < 100 → f1 (qsrc g x) = f2 (qsrc g x)) → qkn g r f1 x s = qkn g r f2 x s := by
    intro x s h
    unfold qkn
    by_cases hl : x < 100
    · rw [decide_eq_true hl]
      rfl
    · rw [h hl]
  unfold qfn
  rw [kn _ _ h2, kn _ _ h3]
/-! ===== the run order gone through ===== -/
def qcl (g : qG) (set : Int32) : Prop := ∀ c s, c < qn g → (qsrc g (qL g c) = s ∨ qsrc g (qR g c) = s) → s < 12 → qt set c = true → qt set s = true
def qWI (g : qG) (r0 : Nat → Int32) (n B : Nat) (set : Int32) (k : Nat) (rk : Nat → Int32) (fk : Nat → Bool) : Prop :=
  qg rk n = g ∧ rk 0 = nI n ∧ rk 1 = r0 1 ∧ qVI rk n (B + k) ∧ (∀ c, c < n → qCI rk c) ∧ (∃ j, j ≤ k ∧ rk 4 = nI j) ∧ (∀ j, j < k → qt set (qo g j) = true → fk (qo g j) = true) ∧ (∀ c, fk c = true → ∃ j, j < k ∧ qo g j = c) ∧ qfr g rk k = fk
theorem qfr_same {g : qG} {n : Nat} (hg : qn g = n) (hn : n ≤ 12) {r1 r2 : Nat → Int32} {c0 k : Nat} (hk : ∀ j, j ≤ k → qo g j < n) (hc : c0 = qo g k) (hg1 : qg r1 n = g) (h : ∀ d, d < n → d ≠ c0 → (r2 (17 + 10 * d + 2) = r1 (17 + 10 * d + 2) ∧ r2 (17 + 10 * d + 3) = r1 (17 + 10 * d + 3) ∧ r2 (17 + 10 * d + 5) = r1 (17 + 10 * d + 5) ∧ r2 (17 + 10 * d + 6) = r1 (17 + 10 * d + 6) ∧ r2 (17 + 10 * d + 7) = r1 (17 + 10 * d + 7))) : ∀ j, j ≤ k → qfr g r2 j = qfr g r1 j
  | 0, _ => rfl
  | j + 1, hj => by
    have ih := qfr_same hg hn hk hc hg1 h j (by omega)
    show qub (qfr g r2 j) (qo g j) (qfn g r2 (qfr g r2 j) (qo g j)) = qub (qfr g r1 j) (qo g j) (qfn g r1 (qfr g r1 j) (qo g j))
    rw [ih]
    congr 1
    have hjn : qo g j < n := hk j (by omega)
    have hjn2 : qo g j < qn g := by rw [hg]; exact hjn
    have hkn2 : qo g k < qn g := by rw [hg]; exact hk k (Nat.le_refl k)
    have hne : qo g j ≠ c0 := by rw [hc]; exact qo_ne (by omega) (by omega) hkn2
    obtain ⟨a2, a3, a5, a6, a7⟩ := h (qo g j) hjn hne
    have eL : qL g (qo g j) = r1 (17 + 10 * qo g j + 2) := by rw [← hg1]; rfl
    have eR : qR g (qo g j) = r1 (17 + 10 * qo g j + 3) := by rw [← hg1]; rfl
    have src : ∀ x, (x = qL g (qo g j) ∨ x = qR g (qo g j)) → ¬ x < 100 → r2 (17 + 10 * qsrc g x + 5) = r1 (17 + 10 * qsrc g x + 5) := by
      intro x hx hl
      have hw := qw_src (g := g) (by omega) hjn2 (qo_w hjn2)
      have hs : qsrc g x < 12 := by
        rcases hx with rfl | rfl
        · exact hw.1 hl
        · exact hw.2 hl
      obtain ⟨i, hi, he⟩ := qo_dep (by omega) hjn2 hx hs
      have h1 := qsrc_lt (g := g) (by omega) hs
      have h2 : qsrc g x ≠ c0 := by
        rw [← he, hc]
        exact qo_ne (by omega) (by omega) hkn2
      exact (h _ (by omega) h2).2.2.1
    have kn : ∀ (x s : Int32), (x = qL g (qo g j) ∨ x = qR g (qo g j)) → qkn g r2 (qfr g r1 j) x s = qkn g r1 (qfr g r1 j) x s := by
      intro x s hx
      unfold qkn
      by_cases hl : x < 100
      · rw [decide_eq_true hl]
        rfl
      · rw [src x hx hl]
    unfold qfn
    rw [a2, a3, a5, a6, a7, kn _ _ (Or.inl eL.symm), kn _ _ (Or.inr eR.symm)]
theorem qwk_inv {r0 : Nat → Int32} {n B : Nat} {set : Int32} (hn : n ≤ 12) (hB : B + 12 < 2 ^ 30) (h : qRI r0 n B) (h4 : r0 4 = 0) (hcl : qcl (qg r0 n) set) : ∀ k, k ≤ qm (qg r0 n) → qWI (qg r0 n) r0 n B set k (qwk (qg r0 n) set r0 k).1 (qwk (qg r0 n) set r0 k).2
  | 0, _ => ⟨rfl, h.1, rfl, h.2.2.2.1, h.2.2.2.2.2, ⟨0, Nat.le_refl 0, h4⟩, fun j hj => absurd hj (Nat.not_lt_zero j), fun c hc => absurd (show false = true from hc) Bool.false_ne_true, rfl⟩
  | k + 1, hk => by
    have ih := qwk_inv hn hB h h4 hcl k (by omega)
    have hm := qm_le (qg r0 n)
    have hgn : qn (qg r0 n) = n := rfl
    have hall : ∀ j, j ≤ k → qo (qg r0 n) j < n := fun j hj => qm_lt (g := qg r0 n) (by omega)
    rw [show qwk (qg r0 n) set r0 (k + 1) = (if qfn (qg r0 n) (qwk (qg r0 n) set r0 k).1 (qwk (qg r0 n) set r0 k).2 (qo (qg r0 n) k) = true then ((qwk (qg r0 n) set r0 k).1, qub (qwk (qg r0 n) set r0 k).2 (qo (qg r0 n) k) true) else if qt set (qo (qg r0 n) k) = true then (qrun (qg r0 n) (qwk (qg r0 n) set r0 k).1 (qo (qg r0 n) k), qub (qwk (qg r0 n) set r0 k).2 (qo (qg r0 n) k) true) else ((qwk (qg r0 n) set r0 k).1, qub (qwk (qg r0 n) set r0 k).2 (qo (qg r0 n) k) false)) from rfl]
    generalize qwk (qg r0 n) set r0 k = w at ih ⊢
    obtain ⟨rk, fk⟩ := w
    generalize hge : qg r0 n = g at *
    dsimp only at ih ⊢
    obtain ⟨i1, i2, i3, i4, i5, ⟨j0, hj0, i6⟩, i7, i8, i9⟩ := ih
    have hok : qo g k < n := hall k (Nat.le_refl k)
    have hok2 : qo g k < qn g := by omega
    have c7 : ∀ b : Bool, (qt set (qo g k) = true → b = true) → ∀ j, j < k + 1 → qt set (qo g j) = true → qub fk (qo g k) b (qo g j) = true := by
      intro b hb j hj hs
      by_cases e : j = k
      · subst e
        unfold qub
        rw [if_pos rfl]
        exact hb hs
      · have hne : qo g j ≠ qo g k := qo_ne (by omega) (by omega) hok2
        unfold qub
        rw [if_neg hne]
        exact i7 j (by omega) hs
    have c8 : ∀ b : Bool, ∀ c, qub fk (qo g k) b c = true → ∃ j, j < k + 1 ∧ qo g j = c := by
      intro b c hc
      unfold qub at hc
      split at hc
      · rename_i e
        exact ⟨k, by omega, e.symm⟩
      · obtain ⟨j, hj, he⟩ := i8 c hc
        exact ⟨j, by omega, he⟩
    by_cases hf : qfn g rk fk (qo g k) = true
    · rw [if_pos hf]
      refine ⟨i1, i2, i3, i4.mono (by omega), i5, ⟨j0, by omega, i6⟩, c7 true (fun _ => rfl), c8 true, ?_⟩
      show qub (qfr g rk k) (qo g k) (qfn g rk (qfr g rk k) (qo g k)) = _
      rw [i9, hf]
    · rw [if_neg hf]
      by_cases hs : qt set (qo g k) = true
      · rw [if_pos hs]
        have hj12 : j0 < 12 := by omega
        have eL : rk (17 + 10 * qo g k + 2) = qL g (qo g k) := by rw [← i1]; rfl
        have eR : rk (17 + 10 * qo g k + 3) = qR g (qo g k) := by rw [← i1]; rfl
        have hw := qw_src (g := g) (by omega) hok2 (qo_w hok2)
        have hself := qw_self (g := g) (by omega) hok2 (qo_w hok2)
        have hfr : ∀ x, (x = qL g (qo g k) ∨ x = qR g (qo g k)) → ¬ x < 100 → fk (qsrc g x) = true := by
          intro x hx hl
          have hs1 : qsrc g x < 12 := by
            rcases hx with rfl | rfl
            · exact hw.1 hl
            · exact hw.2 hl
          obtain ⟨i, hi, he⟩ := qo_dep (by omega) hok2 hx hs1
          have h2 := hcl (qo g k) (qsrc g x) (by omega) (by rcases hx with rfl | rfl; exact Or.inl rfl; exact Or.inr rfl) hs1 hs
          rw [← he] at h2 ⊢
          exact i7 i hi h2
        have hfn := qfn_run (g := g) (c := qo g k) (fr := fk) (B := B + k) (by omega) hj12 i6 i4 hok (by rw [eL]; exact fun hl => ⟨hself.1, hfr _ (Or.inl rfl) hl⟩) (by rw [eR]; exact fun hl => ⟨hself.2, hfr _ (Or.inr rfl) hl⟩)
        show qWI g r0 n B set (k + 1) (qrun g rk (qo g k)) (qub fk (qo g k) true)
        refine ⟨by rw [qg_run hj12 i6]; exact i1, by rw [qrun_01 hj12 i6 (by omega)]; exact i2, by rw [qrun_01 hj12 i6 (by omega)]; exact i3, qVI_run (B := B + k) (by omega) hj12 i6 i4, fun c hc => qCI_run hj12 i6 (i5 c hc), ⟨j0 + 1, by omega, qrun_l hj12 i6⟩, c7 true (fun _ => rfl), c8 true, ?_⟩
        show qub (qfr g (qrun g rk (qo g k)) k) (qo g k) (qfn g (qrun g rk (qo g k)) (qfr g (qrun g rk (qo g k)) k) (qo g k)) = _
        rw [qfr_same (by omega) hn hall rfl i1 (fun d hd hne => ⟨qrun_off hj12 i6 (by omega) (by omega) (by omega) (by omega) (by omega) (by omega), qrun_off hj12 i6 (by omega) (by omega) (by omega) (by omega) (by omega) (by omega), qrun_off hj12 i6 (by omega) (by omega) (by omega) (by omega) (by omega) (by omega), qrun_off hj12 i6 (by omega) (by omega) (by omega) (by omega) (by omega) (by omega), qrun_off hj12 i6 (by omega) (by omega) (by omega) (by omega) (by omega) (by omega)⟩) k (Nat.le_refl k), i9, hfn]
      · rw [if_neg hs]
        refine ⟨i1, i2, i3, i4.mono (by omega), i5, ⟨j0, by omega, i6⟩, c7 false (fun q => absurd q hs), c8 false, ?_⟩
        show qub (qfr g rk k) (qo g k) (qfn g rk (qfr g rk k) (qo g k)) = _
        rw [i9]
        congr 1
        cases e : qfn g rk fk (qo g k)
        · rfl
        · exact absurd e hf
theorem qrt_inv {r0 : Nat → Int32} {n B : Nat} {set : Int32} (hn : n ≤ 12) (hB : B + 12 < 2 ^ 30) (h : qRI r0 n B) (h4 : r0 4 = 0) (hcl : qcl (qg r0 n) set) : qRI (qrt r0 n set) n (B + 12) ∧ qg (qrt r0 n set) n = qg r0 n ∧ qF (qg r0 n) (qrt r0 n set) = (qwk (qg r0 n) set r0 (qm (qg r0 n))).2 := by
  have hm := qm_le (qg r0 n)
  have hgn : qn (qg r0 n) = n := rfl
  obtain ⟨i1, i2, i3, i4, i5, ⟨j0, hj0, i6⟩, i7, i8, i9⟩ := qwk_inv hn hB h h4 hcl (qm (qg r0 n)) (Nat.le_refl _)
  exact ⟨⟨i2, hn, by rw [show qrt r0 n set 1 = r0 1 from i3]; exact h.2.2.1, i4.mono (by omega), ⟨j0, by omega, i6⟩, i5⟩, i1, i9⟩
theorem qcl_all (g : qG) (hn : qn g ≤ 12) : qcl g (-1) := fun c s _ _ hs _ => qt_neg1 (by omega)
theorem qwk_f {g : qG} {set : Int32} {r : Nat → Int32} {k : Nat} (h : qfn g (qwk g set r k).1 (qwk g set r k).2 (qo g k) = true) : qwk g set r (k + 1) = ((qwk g set r k).1, qub (qwk g set r k).2 (qo g k) true) := if_pos h
theorem qwk_r {g : qG} {set : Int32} {r : Nat → Int32} {k : Nat} (h : ¬ qfn g (qwk g set r k).1 (qwk g set r k).2 (qo g k) = true) (hs : qt set (qo g k) = true) : qwk g set r (k + 1) = (qrun g (qwk g set r k).1 (qo g k), qub (qwk g set r k).2 (qo g k) true) := (if_neg h).trans (if_pos hs)
theorem qwk_n {g : qG} {set : Int32} {r : Nat → Int32} {k : Nat} (h : ¬ qfn g (qwk g set r k).1 (qwk g set r k).2 (qo g k) = true) (hs : ¬ qt set (qo g k) = true) : qwk g set r (k + 1) = ((qwk g set r k).1, qub (qwk g set r k).2 (qo g k) false) := (if_neg h).trans (if_neg hs)
theorem uI_qubp {σ : gS} {a c x : Nat} {v : Int32} {f : Nat → Bool} {b : Bool} (h : x ≠ c → σ.1 a x = if f x = true then 1 else 0) (hv : v = if b = true then 1 else 0) : (uI σ a c v).1 a x = if qub f c b x = true then 1 else 0 := by
  unfold qub
  by_cases e : x = c
  · subst e
    rw [uI_at, if_pos rfl]
    exact hv
  · rw [uI_off e, if_neg e]
    exact h e
theorem uI_01 {σ : gS} {a c n : Nat} {v : Int32} (h : ∀ x, x < n → σ.1 a x = 0 ∨ σ.1 a x = 1) (hv : v = 0 ∨ v = 1) (x : Nat) (hx : x < n) : (uI σ a c v).1 a x = 0 ∨ (uI σ a c v).1 a x = 1 := by
  by_cases e : x = c
  · subst e
    rw [uI_at]
    exact hv
  · rw [uI_off e]
    exact h x hx
theorem q01_fr {v : Int32} (h : v = 0 ∨ v = 1) : v = if decide (v = 1) = true then 1 else 0 := by
  rcases h with rfl | rfl <;> rfl
theorem q01_b {v : Int32} {b : Bool} (h : v = if b = true then 1 else 0) : decide (v = 1) = b := by
  cases b <;> subst h <;> rfl
/-- fresh now, by what the array holds and by what is meant -/
theorem qfn_arr {g : qG} {n : Nat} {r : Nat → Int32} {F : Nat → Int32} {fk : Nat → Bool} {k : Nat} (hn : n ≤ 12) (hg : qn g = n) (hg1 : qg r n = g) (hok : qo g k < n) (h : ∀ j, j < k → F (qo g j) = if fk (qo g j) = true then 1 else 0) : qfn g r (fun d => decide (F d = 1)) (qo g k) = qfn g r fk (qo g k) := by
  have hok2 : qo g k < qn g := by omega
  have eL : r (17 + 10 * qo g k + 2) = qL g (qo g k) := by rw [← hg1]; rfl
  have eR : r (17 + 10 * qo g k + 3) = qR g (qo g k) := by rw [← hg1]; rfl
  have hw := qw_src (g := g) (by omega) hok2 (qo_w hok2)
  have key : ∀ x, (x = qL g (qo g k) ∨ x = qR g (qo g k)) → ¬ x < 100 → decide (F (qsrc g x) = 1) = fk (qsrc g x) := by
    intro x hx hl
    have hs : qsrc g x < 12 := by
      rcases hx with rfl | rfl
      · exact hw.1 hl
      · exact hw.2 hl
    obtain ⟨j, hj, he⟩ := qo_dep (by omega) hok2 hx hs
    rw [← he]
    exact q01_b (h j hj)
  exact qfn_congr (fun hl => key _ (Or.inl eL) hl) (fun hl => key _ (Or.inr eR) hl)
theorem qsrc_row {g : qG} {n : Nat} {r : Nat → Int32} {c : Nat} (hn : n ≤ 12) (hg : qn g = n) (hg1 : qg r n = g) (hc : c < n) (hw : qw g c = 0) : (¬ r (17 + 10 * c + 2) < 100 → qsrc g (r (17 + 10 * c + 2)) < 12) ∧ (¬ r (17 + 10 * c + 3) < 100 → qsrc g (r (17 + 10 * c + 3)) < 12) := by
  have eL : r (17 + 10 * c + 2) = qL g c := by rw [← hg1]; rfl
  have eR : r (17 + 10 * c + 3) = qR g c := by rw [← hg1]; rfl
  rw [eL, eR]
  exact qw_src (g := g) (by omega) (by omega) hw
/-- the cell that was just run is fresh -/
theorem qfn_after {r0 : Nat → Int32} {n B k : Nat} {set : Int32} (hn : n ≤ 12) (hB : B + 12 < 2 ^ 30) (h : qRI r0 n B) (h4 : r0 4 = 0) (hcl : qcl (qg r0 n) set) (hk : k < qm (qg r0 n)) (hf : ¬ qfn (qg r0 n) (qwk (qg r0 n) set r0 k).1 (qwk (qg r0 n) set r0 k).2 (qo (qg r0 n) k) = true) (hs : qt set (qo (qg r0 n) k) = true) (hg1 : qg (qwk (qg r0 n) set r0 k).1 n = qg r0 n) : qfn (qg r0 n) (qrun (qg (qwk (qg r0 n) set r0 k).1 n) (qwk (qg r0 n) set r0 k).1 (qo (qg r0 n) k)) (qwk (qg r0 n) set r0 k).2 (qo (qg r0 n) k) = true := by
  have hm := qm_le (qg r0 n)
  have hgn : qn (qg r0 n) = n := rfl
  have hI := qwk_inv hn hB h h4 hcl k (by omega)
  have hok : qo (qg r0 n) k < n := qm_lt hk
  have hok2 : qo (qg r0 n) k < qn (qg r0 n) := hok
  obtain ⟨i1, i2, i3, i4, i5, ⟨j0, hj0, i6⟩, i7, i8, i9⟩ := hI
  have hw := qw_src (g := qg r0 n) hn hok2 (qo_w hok2)
  have hself := qw_self (g := qg r0 n) hn hok2 (qo_w hok2)
  have eL : (qwk (qg r0 n) set r0 k).1 (17 + 10 * qo (qg r0 n) k + 2) = qL (qg r0 n) (qo (qg r0 n) k) := congrFun (congrArg (fun z : qG => z.2.1) i1) _
  have eR : (qwk (qg r0 n) set r0 k).1 (17 + 10 * qo (qg r0 n) k + 3) = qR (qg r0 n) (qo (qg r0 n) k) := congrFun (congrArg (fun z : qG => z.2.2.1) i1) _
  have hfr : ∀ x, (x = qL (qg r0 n) (qo (qg r0 n) k) ∨ x = qR (qg r0 n) (qo (qg r0 n) k)) → ¬ x < 100 → (qwk (qg r0 n) set r0 k).2 (qsrc (qg r0 n) x) = true := by
    intro x hx hl
    have hs1 : qsrc (qg r0 n) x < 12 := by
      rcases hx with rfl | rfl
      · exact hw.1 hl
      · exact hw.2 hl
    obtain ⟨i, hi, he⟩ := qo_dep (g := qg r0 n) hn hok2 hx hs1
    have h2 := hcl (qo (qg r0 n) k) (qsrc (qg r0 n) x) hok2 (by rcases hx with rfl | rfl; exact Or.inl rfl; exact Or.inr rfl) hs1 hs
    rw [← he] at h2 ⊢
    exact i7 i hi h2
  rw [hg1]
  exact qfn_run (B := B + k) (by omega) (show j0 < 12 by omega) i6 i4 hok (by rw [eL]; exact fun hl => ⟨hself.1, hfr _ (Or.inl rfl) hl⟩) (by rw [eR]; exact fun hl => ⟨hself.2, hfr _ (Or.inr rfl) hl⟩)
