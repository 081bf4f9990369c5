/-! ===== errors ===== -/
theorem qdo_yes {g : qG} {x : Int32} (h : qsrc g x < 12) : qdo g x = (1 : Int32) <<< (nI (qsrc g x) &&& 31) := if_neg (by omega)
theorem qdo_no {g : qG} {x : Int32} (h : qsrc g x = 12) : qdo g x = 0 := if_pos h
theorem qst_no {g : qG} {c : Nat} {w : Nat → Int32} (h : w c ≠ 0 ∨ (¬ qbad g w (qL g c) = true ∧ ¬ qbad g w (qR g c) = true)) : qst g c w = w := if_neg (by
  rintro ⟨h1, h2⟩
  rcases h with h | ⟨h3, h4⟩
  · exact h h1
  · exact h2.elim h3 h4)
theorem qst_yes {g : qG} {c : Nat} {w : Nat → Int32} (h0 : w c = 0) (h : qbad g w (qL g c) = true ∨ qbad g w (qR g c) = true) : qst g c w = qup w c 5 := if_pos ⟨h0, h⟩
theorem qst_keep {g : qG} {c d : Nat} {w : Nat → Int32} (h : w d ≠ 0) : qst g c w d ≠ 0 := by
  unfold qst
  split
  · unfold qup
    split
    · decide
    · exact h
  · exact h
theorem qit_keep {f : Nat → (Nat → Int32) → (Nat → Int32)} {d : Nat} (hf : ∀ i w, w d ≠ 0 → f i w d ≠ 0) : ∀ (k : Nat) (w : Nat → Int32), w d ≠ 0 → qit f k w d ≠ 0
  | 0, _, h => h
  | k + 1, w, h => hf k _ (qit_keep hf k w h)
theorem qit_keep2 {f : Nat → (Nat → Int32) → (Nat → Int32)} {d : Nat} (hf : ∀ i w, w d ≠ 0 → f i w d ≠ 0) {j k : Nat} (hjk : j ≤ k) {w : Nat → Int32} (h : qit f k w d = 0) : qit f j w d = 0 := by
  induction hjk with
  | refl => exact h
  | step _ ih =>
    refine ih (Classical.byContradiction fun q => ?_)
    exact absurd h (hf _ _ q)
def qw0 (g : qG) : Nat → Int32 := fun c => if c < qn g then qown g c else 0
theorem qw_first {g : qG} {c : Nat} (hc : c < qn g) (h : qw g c = 0) {j : Nat} (hj : j ≤ qn g) : qit (qst g) j (qw0 g) c = 0 := by
  have h1 : qit (fun _ w => qit (qst g) (qn g) w) 1 (qw0 g) c = 0 := qit_keep2 (fun _ w hw => qit_keep (fun i w => qst_keep) _ w hw) (by omega) h
  exact qit_keep2 (fun i w => qst_keep) hj h1
theorem qw_own {g : qG} {c : Nat} (hc : c < qn g) (h : qw g c = 0) : qown g c = 0 := by
  have h1 := qw_first hc h (j := 0) (Nat.zero_le _)
  have h2 : qw0 g c = 0 := h1
  unfold qw0 at h2
  rwa [if_pos hc] at h2
theorem qw_fit {g : qG} {c : Nat} (hc : c < qn g) (h : qw g c = 0) : ∃ w : Nat → Int32, (∀ d, qw0 g d ≠ 0 → w d ≠ 0) ∧ ¬ qbad g w (qL g c) = true ∧ ¬ qbad g w (qR g c) = true := by
  refine ⟨qit (qst g) c (qw0 g), fun d hd => qit_keep (fun i w => qst_keep) _ _ hd, ?_⟩
  have h1 := qw_first hc h (j := c) (by omega)
  have h2 := qw_first hc h (j := c + 1) (by omega)
  have h3 : qst g c (qit (qst g) c (qw0 g)) c = 0 := h2
  generalize qit (qst g) c (qw0 g) = w at h1 h3 ⊢
  constructor
  · intro q
    rw [qst_yes h1 (Or.inl q)] at h3
    simp [qup] at h3
  · intro q
    rw [qst_yes h1 (Or.inr q)] at h3
    simp [qup] at h3
theorem qown_0 {g : qG} {c : Nat} (h : qown g c = 0) : qdf g (qV g c) = qb c ∧ ¬ qall g c c = true ∧ ¬ qundB g (qL g c) = true ∧ ¬ qundB g (qR g c) = true := by
  unfold qown at h
  split at h
  · rename_i h1
    split at h
    · cases h
    · rename_i h2
      split at h
      · cases h
      · rename_i h3
        exact ⟨h1, h2, fun q => h3 (Or.inl q), fun q => h3 (Or.inr q)⟩
  · cases h
theorem qsrc_ok {g : qG} (hn : qn g ≤ 12) {w : Nat → Int32} (hw : ∀ d, qw0 g d ≠ 0 → w d ≠ 0) {x : Int32} (hx : ¬ x < 100) (hb : ¬ qbad g w x = true) (hu : ¬ qundB g x = true) : qsrc g x < 12 := by
  have h1 : qdf g (x - 100) ≠ 0 := by
    intro q
    apply hu
    unfold qundB
    simp [hx, q, Int32.not_lt.mp hx]
  have h2 : ∃ d, d < 32 ∧ qt (qdf g (x - 100)) d = true := by
    apply Classical.byContradiction
    intro q
    apply h1
    apply qt_ext
    intro c hc
    rw [qt_0 c hc]
    cases e : qt (qdf g (x - 100)) c
    · rfl
    · exact absurd ⟨c, hc, e⟩ q
  obtain ⟨d, hd, h3⟩ := h2
  have h4 := (qdf_bit hn _ hd).mp h3
  have h5 : w d = 0 := by
    apply Classical.byContradiction
    intro q
    apply hb
    unfold qbad
    simp only [decide_eq_true_eq]
    refine qfst_lt.mpr ⟨d, h4.1, ?_⟩
    unfold qused
    rw [if_neg hx]
    simp [h3, q]
  have h6 : qw0 g d = 0 := by
    apply Classical.byContradiction
    intro q
    exact hw d q h5
  unfold qw0 at h6
  rw [if_pos h4.1] at h6
  have h7 := (qown_0 h6).1
  rw [h4.2] at h7
  unfold qsrc
  rw [if_neg hx, qonl_at (by omega) h7]
  omega
theorem qw_src {g : qG} (hn : qn g ≤ 12) {c : Nat} (hc : c < qn g) (h : qw g c = 0) : (¬ qL g c < 100 → qsrc g (qL g c) < 12) ∧ (¬ qR g c < 100 → qsrc g (qR g c) < 12) := by
  obtain ⟨w, h1, h2, h3⟩ := qw_fit hc h
  obtain ⟨-, -, h4, h5⟩ := qown_0 (qw_own hc h)
  exact ⟨fun hx => qsrc_ok hn h1 hx h2 h4, fun hx => qsrc_ok hn h1 hx h3 h5⟩
/-- a runnable cell isn't its own source -/
theorem qw_self {g : qG} (hn : qn g ≤ 12) {c : Nat} (hc : c < qn g) (h : qw g c = 0) : qsrc g (qL g c) ≠ c ∧ qsrc g (qR g c) ≠ c := by
  obtain ⟨-, h2, -, -⟩ := qown_0 (qw_own hc h)
  constructor
  · intro q
    exact h2 (qall_dir ((qdir_bit g c (by omega)).mpr (Or.inl q)))
  · intro q
    exact h2 (qall_dir ((qdir_bit g c (by omega)).mpr (Or.inr q)))
theorem gRow.eq {Y : gL} {mo : Nat} {σ τ : gS} {r : Nat → Int32} {n : Nat} {rs : List Nat} (h : gRow Y mo σ r n) (hM : gLM Y mo) (he : gEq Y rs σ τ) (h16 : 16 ∉ rs) : gRow Y mo τ r n := ⟨(he.at (gM1 hM) h16).trans h.1, h.2⟩
/-- what the derived arrays of the model hold -/
def gDer (Y : gL) (mo : Nat) (τ : gS) (g : qG) (r : Nat → Int32) : Prop :=
  (∀ c, c < qn g → τ.1 (gF Y mo 4) c = qdir g c) ∧ (∀ c d, c < qn g → d < qn g → qt (τ.1 (gF Y mo 6) c) d = qall g c d) ∧ (∀ c, c < qn g → τ.1 (gF Y mo 5) c = qw g c) ∧ τ.1 mo 8 = nI (qm g) ∧ (∀ k, k < qm g → τ.1 (gF Y mo 7) k = nI (qo g k)) ∧ ∀ c, c < qn g → τ.1 (gF Y mo 9) c = if qF g r c = true then 1 else 0
theorem qlim_0 (t c : Nat) : qlim t 0 0 c = t := if_neg (by omega)
theorem qfin {g : qG} {A : Nat → Int32} (hs : qSnd g A) (hm : qCmp g A (qlim (qn g) 0 0)) (c d : Nat) (hc : c < qn g) (hd : d < qn g) : qt (A c) d = qall g c d := by
  have e := hs c d hc hd
  have f := hm c d hc hd
  rw [qlim_0] at f
  have f' : qall g c d = true → qt (A c) d = true := f
  cases h1 : qt (A c) d <;> cases h2 : qall g c d <;> simp_all
theorem qini {g : qG} {A : Nat → Int32} (h : ∀ c, c < qn g → A c = qdir g c) : qSnd g A ∧ qCmp g A (qlim 0 0 0) := by
  constructor
  · intro c d hc hd q
    rw [h c hc] at q
    exact qall_dir q
  · intro c d hc hd q
    rw [qlim_0] at q
    rw [h c hc]
    exact q
theorem qlim_row {t c n c' : Nat} (ht : t < n) : qlim t (c + 1) 0 c' ≤ qlim t c n c' := by
  unfold qlim
  split <;> split <;> omega
theorem qlim_turn {t n c' : Nat} (hc : c' < n) : qlim (t + 1) 0 0 c' ≤ qlim t n 0 c' := by
  unfold qlim
  split <;> split <;> omega
theorem uI_at {σ : gS} {a k : Nat} {v : Int32} : (uI σ a k v).1 a k = v := by simp [uI]
theorem uI_off {σ : gS} {a k j : Nat} {v : Int32} (h : j ≠ k) : (uI σ a k v).1 a j = σ.1 a j := by simp [uI, h]
theorem uI_rng {σ : gS} {a i : Nat} {v : Int32} {P : Nat → Int32} (h : ∀ c, c < i → σ.1 a c = P c) (hv : v = P i) (c : Nat) (hc : c < i + 1) : (uI σ a i v).1 a c = P c := by
  by_cases e : c = i
  · subst e
    rw [uI_at, hv]
  · rw [uI_off e]
    exact h c (by omega)
theorem uI_qup {σ : gS} {a i n : Nat} {v : Int32} {w : Nat → Int32} (h : ∀ c, c < n → σ.1 a c = w c) (c : Nat) (hc : c < n) : (uI σ a i v).1 a c = qup w i v c := by
  unfold qup
  by_cases e : c = i
  · subst e
    rw [uI_at, if_pos rfl]
  · rw [uI_off e, if_neg e]
    exact h c hc
theorem gRow.put {Y : gL} {mo : Nat} {σ : gS} {r : Nat → Int32} {n a k i : Nat} {v : Int32} (h : gRow Y mo σ r n) (hi : gK Y a = i) (h16 : i ≠ 16) (hM : gLM Y mo) : gRow Y mo (uI σ a k v) r n := ⟨by rw [uI_ne (gK_ne (gM1 hM) hi h16.symm)]; exact h.1, h.2⟩
