/-! ===== definers, sources, dependencies ===== -/
theorem qdfn_bit (V : Nat → Int32) (x : Int32) {d : Nat} (hd : d < 32) : ∀ c, c ≤ 32 → (qt (qdfn V x c) d = true ↔ d < c ∧ V d = x)
  | 0, _ => by simp [qdfn, qt_0 d hd]
  | c + 1, hc => by
    have ih := qdfn_bit V x hd c (by omega)
    rw [qdfn, qt_or _ _ hd, Bool.or_eq_true, ih]
    by_cases h : V c = x
    · rw [if_pos h, qt_qb (by omega) hd]
      simp only [decide_eq_true_eq]
      constructor
      · rintro (⟨h1, h2⟩ | rfl)
        · exact ⟨by omega, h2⟩
        · exact ⟨by omega, h⟩
      · rintro ⟨h1, h2⟩
        by_cases e : d = c
        · exact Or.inr e
        · exact Or.inl ⟨by omega, h2⟩
    · rw [if_neg h, qt_0 d hd]
      constructor
      · rintro (⟨h1, h2⟩ | q)
        · exact ⟨by omega, h2⟩
        · cases q
      · rintro ⟨h1, h2⟩
        by_cases e : d = c
        · subst e; exact absurd h2 h
        · exact Or.inl ⟨by omega, h2⟩
theorem qdf_bit {g : qG} (hn : qn g ≤ 12) (x : Int32) {d : Nat} (hd : d < 32) : qt (qdf g x) d = true ↔ d < qn g ∧ qV g d = x := qdfn_bit _ _ hd _ (by omega)
theorem qsrc_lt {g : qG} (hn : qn g ≤ 12) {x : Int32} (h : qsrc g x < 12) : qsrc g x < qn g := by
  unfold qsrc at h ⊢
  split at h
  · omega
  · rename_i h1
    rw [if_neg h1]
    have h2 := qonl_yes h
    have h3 : qt (qb (qonl (qdf g (x - 100)))) (qonl (qdf g (x - 100))) = true := by
      rw [qt_qb (by omega) (by omega)]
      simp
    rw [← h2] at h3
    exact ((qdf_bit hn _ (by omega)).mp h3).1
theorem qdo_bit (g : qG) (x : Int32) {d : Nat} (hd : d < 12) : qt (qdo g x) d = true ↔ qsrc g x = d := by
  unfold qdo
  have h1 := qsrc_le g x
  split
  · rename_i h
    rw [qt_0 d (by omega)]
    constructor
    · intro q; cases q
    · intro q; omega
  · rename_i h
    rw [qt_qb (by omega) (by omega)]
    simp only [decide_eq_true_eq]
    exact ⟨Eq.symm, Eq.symm⟩
theorem qdo_big (g : qG) (x : Int32) {d : Nat} (h12 : 12 ≤ d) (hd : d < 32) : qt (qdo g x) d = false := by
  unfold qdo
  have h1 := qsrc_le g x
  split
  · exact qt_0 d hd
  · rw [qt_qb (by omega) hd]
    simp only [decide_eq_false_iff_not]
    omega
theorem qdir_bit (g : qG) (c : Nat) {d : Nat} (hd : d < 12) : qt (qdir g c) d = true ↔ (qsrc g (qL g c) = d ∨ qsrc g (qR g c) = d) := by
  unfold qdir
  rw [qt_or _ _ (by omega), Bool.or_eq_true, qdo_bit g _ hd, qdo_bit g _ hd]
theorem qdir_lt {g : qG} (hn : qn g ≤ 12) {c d : Nat} (hd : d < 32) (h : qt (qdir g c) d = true) : d < qn g := by
  rcases Nat.lt_or_ge d 12 with q | q
  · rcases (qdir_bit g c q).mp h with e | e
    · have := qsrc_lt hn (x := qL g c) (by omega); omega
    · have := qsrc_lt hn (x := qR g c) (by omega); omega
  · unfold qdir at h
    rw [qt_or _ _ hd, qdo_big g _ q hd, qdo_big g _ q hd] at h
    cases h
/-! ===== the closure ===== -/
theorem qwar_s (g : qG) (k c d : Nat) : qwar g (k + 1) c d = (qwar g k c d || (qwar g k c k && qwar g k k d)) := rfl
theorem qwar_up {g : qG} {k c d : Nat} (h : qwar g k c d = true) : qwar g (k + 1) c d = true := by rw [qwar_s, h]; rfl
theorem qwar_mono {g : qG} {k j c d : Nat} (hkj : k ≤ j) (h : qwar g k c d = true) : qwar g j c d = true := by
  induction hkj with
  | refl => exact h
  | step _ ih => exact qwar_up ih
theorem qwar_mid {g : qG} {k c : Nat} : qwar g (k + 1) c k = qwar g k c k := by
  rw [qwar_s]
  cases qwar g k c k <;> simp
theorem qwar_mid2 {g : qG} {k d : Nat} : qwar g (k + 1) k d = qwar g k k d := by
  rw [qwar_s]
  cases qwar g k k d <;> simp
theorem qwar_tr {g : qG} : ∀ (k e c d : Nat), e < k → qwar g k c e = true → qwar g k e d = true → qwar g k c d = true
  | 0, e, c, d, he, _, _ => absurd he (Nat.not_lt_zero e)
  | k + 1, e, c, d, he, h1, h2 => by
    have ih := qwar_tr (g := g) k
    rcases Nat.lt_or_ge e k with hek | hek
    · rw [qwar_s] at h1 h2 ⊢
      simp only [Bool.or_eq_true, Bool.and_eq_true] at h1 h2 ⊢
      rcases h1 with h1 | ⟨h1a, h1b⟩ <;> rcases h2 with h2 | ⟨h2a, h2b⟩
      · exact Or.inl (ih e c d hek h1 h2)
      · exact Or.inr ⟨ih e c k hek h1 h2a, h2b⟩
      · exact Or.inr ⟨h1a, ih e k d hek h1b h2⟩
      · exact Or.inr ⟨h1a, h2b⟩
    · have e1 : e = k := by omega
      subst e1
      rw [qwar_mid] at h1
      rw [qwar_mid2] at h2
      rw [qwar_s, h1, h2]
      simp
theorem qwar_lt {g : qG} (hn : qn g ≤ 12) : ∀ (k c d : Nat), d < 32 → qwar g k c d = true → d < qn g
  | 0, c, d, hd, h => qdir_lt hn hd h
  | k + 1, c, d, hd, h => by
    rw [qwar_s] at h
    simp only [Bool.or_eq_true, Bool.and_eq_true] at h
    rcases h with h | ⟨_, h⟩
    · exact qwar_lt hn k c d hd h
    · exact qwar_lt hn k k d hd h
theorem qall_tr {g : qG} {c e d : Nat} (he : e < qn g) (h1 : qall g c e = true) (h2 : qall g e d = true) : qall g c d = true := qwar_tr _ e c d he h1 h2
theorem qall_dir {g : qG} {c d : Nat} (h : qt (qdir g c) d = true) : qall g c d = true := qwar_mono (k := 0) (Nat.zero_le _) h
/-- sound, and complete up to a stage a row -/
def qSnd (g : qG) (A : Nat → Int32) : Prop := ∀ c d, c < qn g → d < qn g → qt (A c) d = true → qall g c d = true
def qCmp (g : qG) (A : Nat → Int32) (lim : Nat → Nat) : Prop := ∀ c d, c < qn g → d < qn g → qwar g (lim c) c d = true → qt (A c) d = true
def qlim (t c d : Nat) : Nat → Nat := fun c' => if c' < c ∨ (c' = c ∧ t < d) then t + 1 else t
theorem qlim_ge (t c d c' : Nat) : t ≤ qlim t c d c' := by unfold qlim; split <;> omega
theorem qstep {g : qG} (hn : qn g ≤ 12) {A B : Nat → Int32} {t c d : Nat} (ht : t < qn g) (hc : c < qn g) (hd : d < qn g) (hB : ∀ c', c' < qn g → c' ≠ c → B c' = A c') (hBc : B c = A c ||| (if qt (A c) d = true then A d else 0)) (hs : qSnd g A) (hm : qCmp g A (qlim t c d)) : qSnd g B ∧ qCmp g B (qlim t c (d + 1)) := by
  have bit : ∀ e, e < qn g → qt (B c) e = (qt (A c) e || (qt (A c) d && qt (A d) e)) := by
    intro e he
    rw [hBc, qt_or _ _ (by omega)]
    cases h : qt (A c) d
    · simp [qt_0 e (by omega)]
    · simp
  constructor
  · intro c' d' hc' hd' h
    by_cases e : c' = c
    · subst e
      rw [bit d' hd'] at h
      simp only [Bool.or_eq_true, Bool.and_eq_true] at h
      rcases h with h | ⟨h1, h2⟩
      · exact hs _ _ hc hd' h
      · exact qall_tr hd (hs _ _ hc hd h1) (hs _ _ hd hd' h2)
    · rw [hB c' hc' e] at h
      exact hs _ _ hc' hd' h
  · intro c' d' hc' hd' h
    by_cases e : c' = c
    · subst e
      rw [bit d' hd']
      simp only [Bool.or_eq_true, Bool.and_eq_true]
      by_cases htd : t = d
      · subst htd
        have e1 : qlim t c' (t + 1) c' = t + 1 := by unfold qlim; rw [if_pos (Or.inr ⟨rfl, by omega⟩)]
        have e2 : qlim t c' t c' = t := by unfold qlim; rw [if_neg (by omega)]
        rw [e1, qwar_s] at h
        simp only [Bool.or_eq_true, Bool.and_eq_true] at h
        rcases h with h | ⟨h1, h2⟩
        · exact Or.inl (hm c' d' hc hd' (by rw [e2]; exact h))
        · exact Or.inr ⟨hm c' t hc hd (by rw [e2]; exact h1), hm t d' hd hd' (qwar_mono (qlim_ge _ _ _ _) h2)⟩
      · have e1 : qlim t c' (d + 1) c' = qlim t c' d c' := by
          unfold qlim
          by_cases q : t < d
          · rw [if_pos (Or.inr ⟨rfl, by omega⟩), if_pos (Or.inr ⟨rfl, q⟩)]
          · rw [if_neg (by omega), if_neg (by omega)]
        rw [e1] at h
        exact Or.inl (hm c' d' hc hd' h)
    · rw [hB c' hc' e]
      refine hm c' d' hc' hd' ?_
      have e1 : qlim t c (d + 1) c' = qlim t c d c' := by
        unfold qlim
        by_cases q : c' < c
        · rw [if_pos (Or.inl q), if_pos (Or.inl q)]
        · rw [if_neg (by omega), if_neg (by omega)]
      rw [e1] at h
      exact h
theorem qCmp.le {g : qG} {A : Nat → Int32} {l1 l2 : Nat → Nat} (h : qCmp g A l1) (hl : ∀ c, c < qn g → l2 c ≤ l1 c) : qCmp g A l2 := fun c d hc hd q => h c d hc hd (qwar_mono (hl c hc) q)
/-- one row of one stage, in place -/
theorem qwstep {g : qG} (hn : qn g ≤ 12) {A B : Nat → Int32} {b c : Nat} (hb : b < qn g) (hc : c < qn g) (hB : ∀ c', c' < qn g → c' ≠ c → B c' = A c') (hBc : B c = (if qt (A c) b = true then A c ||| A b else A c)) (h : ∀ c' d', c' < qn g → d' < 32 → qt (A c') d' = qwar g (if c' < c then b + 1 else b) c' d') : ∀ c' d', c' < qn g → d' < 32 → qt (B c') d' = qwar g (if c' < c + 1 then b + 1 else b) c' d' := by
  intro c' d' hc' hd'
  by_cases e : c' = c
  · subst e
    rw [if_pos (by omega), hBc, qwar_s]
    have h1 := h c' d' hc' hd'
    have h2 := h c' b hc' (by omega)
    have h3 := h b d' hb hd'
    rw [if_neg (by omega)] at h1 h2
    have h4 : qt (A b) d' = qwar g b b d' := by
      rw [h3]
      split
      · exact qwar_mid2
      · rfl
    rw [← h1, ← h2, ← h4]
    cases qt (A c') b
    · simp
    · simp [qt_or _ _ hd']
  · rw [hB c' hc' e, h c' d' hc' hd']
    by_cases q : c' < c
    · rw [if_pos q, if_pos (by omega)]
    · rw [if_neg q, if_neg (by omega)]
/-! ===== the run order ===== -/
-- pasted from kit/laws/COUNTS.to-paste (fb_holes)
theorem fb_holes : ∀ (m n : Nat) (f : Nat → Nat), (∀ i, i < n → f i < m) → (∀ i j, i < j → j < n → f i ≠ f j) → n ≤ m := by
  intro m
  induction m with
  | zero =>
    intro n f h1 _
    rcases Nat.eq_zero_or_pos n with h | h
    · omega
    · exact absurd (h1 0 h) (Nat.not_lt_zero _)
  | succ m ih =>
    intro n f h1 h2
    by_cases hx : ∃ i, i < n ∧ f i = m
    · obtain ⟨a, ha, hfa⟩ := hx
      have hg := ih (n - 1) (fun i => if i < a then f i else f (i + 1)) (by
        intro i hi
        by_cases q : i < a
        · simp only [if_pos q]
          have b1 := h1 i (by omega)
          have b2 := h2 i a q ha
          omega
        · simp only [if_neg q]
          have b1 := h1 (i + 1) (by omega)
          have b2 := h2 a (i + 1) (by omega) (by omega)
          omega) (by
        intro i j hij hj
        by_cases q : i < a
        · by_cases r : j < a
          · simp only [if_pos q, if_pos r]
            exact h2 i j hij (by omega)
          · simp only [if_pos q, if_neg r]
            exact h2 i (j + 1) (by omega) (by omega)
        · have r : ¬ j < a := by omega
          simp only [if_neg q, if_neg r]
          exact h2 (i + 1) (j + 1) (by omega) (by omega))
      omega
    · have hg := ih n f (fun i hi => by
        have b1 := h1 i hi
        have b2 : f i ≠ m := fun e => hx ⟨i, hi, e⟩
        omega) h2
      omega
-- end of what is pasted
theorem qo_le (g : qG) (k : Nat) : qo g k ≤ qn g := qfst_le _ _
theorem qpl_bit {g : qG} (hn : qn g ≤ 12) {d : Nat} (hd : d < 32) : ∀ k, (qt (qpl g k) d = true ↔ ∃ j, j < k ∧ qo g j = d)
  | 0 => by
    rw [qpl, qt_0 d hd]
    constructor
    · intro h; cases h
    · rintro ⟨j, hj, -⟩; omega
  | k + 1 => by
    have ih := qpl_bit hn hd k
    have hle := qo_le g k
    rw [qpl, qt_or _ _ hd, Bool.or_eq_true, ih]
    show _ ∨ qt (qb (qo g k)) d = true ↔ _
    rw [qt_qb (by omega) hd]
    simp only [decide_eq_true_eq]
    constructor
    · rintro (⟨j, hj, h⟩ | h)
      · exact ⟨j, by omega, h⟩
      · exact ⟨k, by omega, h.symm⟩
    · rintro ⟨j, hj, h⟩
      by_cases e : j = k
      · subst e; exact Or.inr h.symm
      · exact Or.inl ⟨j, by omega, h⟩
theorem qo_rdy {g : qG} {k : Nat} (h : qo g k < qn g) : qrdy g (qpl g k) (qo g k) = true := qfst_yes _ _ h
theorem qo_w {g : qG} {k : Nat} (h : qo g k < qn g) : qw g (qo g k) = 0 := by
  have h1 := qo_rdy h
  unfold qrdy at h1
  simp only [Bool.and_eq_true, decide_eq_true_eq] at h1
  exact h1.1
theorem qo_new {g : qG} {k : Nat} (h : qo g k < qn g) : qt (qpl g k) (qo g k) = false := by
  have h1 := qo_rdy h
  unfold qrdy at h1
  simp only [Bool.and_eq_true, Bool.not_eq_true', decide_eq_true_eq] at h1
  exact h1.2.1
theorem qo_dir {g : qG} {k : Nat} (h : qo g k < qn g) {d : Nat} (hd : d < 32) (hb : qt (qdir g (qo g k)) d = true) : qt (qpl g k) d = true := by
  have h1 := qo_rdy h
  unfold qrdy at h1
  simp only [Bool.and_eq_true, Bool.not_eq_true', decide_eq_true_eq] at h1
  exact qt_diff.mp h1.2.2 d hd hb
theorem qo_ne {g : qG} (hn : qn g ≤ 12) {i j : Nat} (hij : i < j) (h : qo g j < qn g) : qo g i ≠ qo g j := by
  intro e
  have h1 := qo_new h
  have h2 := (qpl_bit hn (d := qo g j) (by omega) j).mpr ⟨i, hij, e⟩
  rw [h1] at h2
  cases h2
theorem qo_few {g : qG} (hn : qn g ≤ 12) {k : Nat} (h : ∀ j, j < k → qo g j < qn g) : k ≤ qn g := fb_holes (qn g) k (qo g) h (fun i j hij hj => qo_ne hn hij (h j hj))
theorem qm_le (g : qG) : qm g ≤ qn g := qfst_le _ _
theorem qm_lt {g : qG} {k : Nat} (h : k < qm g) : qo g k < qn g := by
  have h1 := qfst_no (fun k => decide (qo g k = qn g)) (qn g) k h
  have h2 := qo_le g k
  simp only [decide_eq_false_iff_not] at h1
  omega
theorem qm_end {g : qG} (hn : qn g ≤ 12) : qo g (qm g) = qn g := by
  have hle := qo_le g (qm g)
  rcases Nat.lt_or_ge (qo g (qm g)) (qn g) with h | h
  · have h1 := qo_few hn (k := qm g + 1) (fun j hj => by
      rcases Nat.lt_or_ge j (qm g) with q | q
      · exact qm_lt q
      · rw [show j = qm g by omega]; exact h)
    have h2 := qfst_yes (fun k => decide (qo g k = qn g)) (qn g) (show qm g < qn g by omega)
    have h3 : qo g (qm g) = qn g := of_decide_eq_true h2
    omega
  · omega
theorem qm_at {g : qG} (hn : qn g ≤ 12) {k : Nat} (h : ∀ j, j < k → qo g j < qn g) (he : qo g k = qn g) : qm g = k := by
  rcases Nat.lt_trichotomy (qm g) k with q | q | q
  · have h1 := h _ q
    have h2 := qm_end hn
    omega
  · exact q
  · have h1 := qm_lt q
    omega
/-- a cell of the order: its dependencies stand before it -/
theorem qo_dep {g : qG} (hn : qn g ≤ 12) {k : Nat} (h : qo g k < qn g) {x : Int32} (hx : x = qL g (qo g k) ∨ x = qR g (qo g k)) (hs : qsrc g x < 12) : ∃ j, j < k ∧ qo g j = qsrc g x := by
  have h1 : qt (qdir g (qo g k)) (qsrc g x) = true := by
    rw [qdir_bit g _ hs]
    rcases hx with rfl | rfl
    · exact Or.inl rfl
    · exact Or.inr rfl
  exact (qpl_bit hn (by omega) k).mp (qo_dir h (by omega) h1)
