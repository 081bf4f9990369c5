/-! ===== rows that editing lays ===== -/
theorem qRI_by {r r' : Nat → Int32} {n n' B : Nat} (h : qRI r n B) (h0 : r' 0 = nI n') (hn' : n' ≤ 12) (h1 : r' 1 = 0 ∨ r' 1 = 1) (h2 : r' 2 = r 2) (h4 : ∃ k, k ≤ 12 ∧ r' 4 = nI k) (hb : ∀ c, c < n' → (∃ d, d < n ∧ ∀ f, f < 10 → r' (17 + 10 * c + f) = r (17 + 10 * d + f)) ∨ (r' (17 + 10 * c + 5) = 0 ∧ (∃ v, v < 10 ∧ r' (17 + 10 * c + 0) = nI v) ∧ (∃ x, x < 110 ∧ r' (17 + 10 * c + 2) = nI x) ∧ ∃ y, y < 110 ∧ r' (17 + 10 * c + 3) = nI y)) : qRI r' n' B := by
  obtain ⟨g0, g1, g2, ⟨q, v1, v2, v3⟩, g4, g5⟩ := h
  refine ⟨h0, hn', h1, ⟨q, v1, by rw [h2]; exact v2, fun c hc => ?_⟩, h4, fun c hc => ?_⟩
  · rcases hb c hc with ⟨d, hd, hf⟩ | ⟨hz, -⟩
    · obtain ⟨u, hu, hv⟩ := v3 d hd
      exact ⟨u, hu, by rw [hf 5 (by omega)]; exact hv⟩
    · exact ⟨0, Nat.zero_le q, hz⟩
  · rcases hb c hc with ⟨d, hd, hf⟩ | ⟨hz, w1, w2, w3⟩
    · have k := g5 d hd
      unfold qCI at k ⊢
      rw [hf 0 (by omega), hf 2 (by omega), hf 3 (by omega), hf 4 (by omega), hf 5 (by omega), hf 6 (by omega), hf 7 (by omega)]
      exact k
    · exact ⟨w1, w2, w3, fun q => absurd hz q⟩
theorem qRI_sv {r : Nat → Int32} {n B : Nat} (h : qRI r n B) : qRI (qsv r) n B := qRI_by h h.1 h.2.1 h.2.2.1 rfl ⟨0, by omega, rfl⟩ (fun c hc => Or.inl ⟨c, hc, fun f _ => qup_off (by omega)⟩)
theorem qsv_4 {r : Nat → Int32} : qsv r 4 = 0 := rfl
theorem qdef_at {r : Nat → Int32} {c : Nat} {v op x y : Int32} : qdef r c v op x y (17 + 10 * c + 0) = v ∧ qdef r c v op x y (17 + 10 * c + 1) = op ∧ qdef r c v op x y (17 + 10 * c + 2) = x ∧ qdef r c v op x y (17 + 10 * c + 3) = y ∧ qdef r c v op x y (17 + 10 * c + 4) = 0 ∧ qdef r c v op x y (17 + 10 * c + 5) = 0 ∧ qdef r c v op x y (17 + 10 * c + 6) = 0 ∧ qdef r c v op x y (17 + 10 * c + 7) = 0 := by
  unfold qdef
  refine ⟨?_, ?_, ?_, ?_, ?_, ?_, ?_, qup_at⟩
  · iterate 7 rw [qup_off (by omega)]
    exact qup_at
  · iterate 6 rw [qup_off (by omega)]
    exact qup_at
  · iterate 5 rw [qup_off (by omega)]
    exact qup_at
  · iterate 4 rw [qup_off (by omega)]
    exact qup_at
  · iterate 3 rw [qup_off (by omega)]
    exact qup_at
  · iterate 2 rw [qup_off (by omega)]
    exact qup_at
  · rw [qup_off (by omega)]
    exact qup_at
theorem qdef_off {r : Nat → Int32} {c j : Nat} {v op x y : Int32} (h : j < 17 + 10 * c ∨ 17 + 10 * c + 8 ≤ j) : qdef r c v op x y j = r j := by
  unfold qdef
  iterate 8 rw [qup_off (by omega)]
theorem qn10 {v : Int32} {m : Nat} {M : Int32} (hM : M = nI m) (hm : m < 1000) (h : ¬ v < 0 ∧ ¬ M < v) : ∃ k, k < m + 1 ∧ v = nI k := by
  obtain ⟨k, hk, rfl⟩ := nI_of h.1
  subst hM
  refine ⟨k, ?_, rfl⟩
  have h2 := h.2
  rw [nI_ltI (by omega) hk] at h2
  omega
theorem qRI_def {r : Nat → Int32} {n B c : Nat} {v op x y : Int32} (h : qRI r n B) (hc : c < n) (hv : ¬ v < 0 ∧ ¬ 9 < v) (hx : ¬ x < 0 ∧ ¬ 109 < x) (hy : ¬ y < 0 ∧ ¬ 109 < y) : qRI (qdef r c v op x y) n B := by
  obtain ⟨k, hk, e1⟩ := qn10 (m := 9) rfl (by omega) hv
  obtain ⟨a, ha, e2⟩ := qn10 (m := 109) rfl (by omega) hx
  obtain ⟨b, hb, e3⟩ := qn10 (m := 109) rfl (by omega) hy
  obtain ⟨d0, d1, d2, d3, d4, d5, d6, d7⟩ := qdef_at (r := r) (c := c) (v := v) (op := op) (x := x) (y := y)
  refine qRI_by h ((qdef_off (by omega)).trans h.1) h.2.1 (by rw [qdef_off (by omega)]; exact h.2.2.1) (qdef_off (by omega)) (by rw [qdef_off (by omega)]; exact h.2.2.2.2.1) (fun d hd => ?_)
  by_cases e : d = c
  · subst e
    exact Or.inr ⟨d5, ⟨k, hk, by rw [d0]; exact e1⟩, ⟨a, ha, by rw [d2]; exact e2⟩, ⟨b, hb, by rw [d3]; exact e3⟩⟩
  · exact Or.inl ⟨d, hd, fun f hf => qdef_off (by omega)⟩
theorem qadd1_at {r : Nat → Int32} {n : Nat} {v op x y : Int32} {f : Nat} (hf : f < 8) : qadd1 r n v op x y (17 + 10 * n + f) = qdef (qsv r) n v op x y (17 + 10 * n + f) := by
  unfold qadd1
  rw [qup_off (by omega), qup_off (by omega)]
theorem qadd1_8 {r : Nat → Int32} {n : Nat} {v op x y : Int32} : qadd1 r n v op x y (17 + 10 * n + 8) = 0 := by
  unfold qadd1
  rw [qup_off (by omega), qup_at]
theorem qadd1_0 {r : Nat → Int32} {n : Nat} {v op x y : Int32} : qadd1 r n v op x y 0 = nI (n + 1) := by
  unfold qadd1
  rw [qup_at]
theorem qadd1_off {r : Nat → Int32} {n j : Nat} {v op x y : Int32} (h0 : j ≠ 0) (h : j < 17 + 10 * n ∨ 17 + 10 * n + 10 ≤ j) : qadd1 r n v op x y j = qsv r j := by
  unfold qadd1
  rw [qup_off h0, qup_off (by omega), qdef_off (by omega)]
theorem qRI_add {r : Nat → Int32} {n B : Nat} {v op x y : Int32} (h : qRI r n B) (hn : n < 12) (hv : ¬ v < 0 ∧ ¬ 9 < v) (hx : ¬ x < 0 ∧ ¬ 109 < x) (hy : ¬ y < 0 ∧ ¬ 109 < y) : qRI (qadd1 r n v op x y) (n + 1) B := by
  obtain ⟨k, hk, e1⟩ := qn10 (m := 9) rfl (by omega) hv
  obtain ⟨a, ha, e2⟩ := qn10 (m := 109) rfl (by omega) hx
  obtain ⟨b, hb, e3⟩ := qn10 (m := 109) rfl (by omega) hy
  obtain ⟨d0, d1, d2, d3, d4, d5, d6, d7⟩ := qdef_at (r := qsv r) (c := n) (v := v) (op := op) (x := x) (y := y)
  refine qRI_by (qRI_sv h) qadd1_0 (by omega) (by rw [qadd1_off (by omega) (by omega)]; exact h.2.2.1) (qadd1_off (by omega) (by omega)) ⟨0, by omega, by rw [qadd1_off (by omega) (by omega)]; rfl⟩ (fun d hd => ?_)
  by_cases e : d = n
  · subst e
    exact Or.inr ⟨by rw [qadd1_at (by omega)]; exact d5, ⟨k, hk, by rw [qadd1_at (by omega), d0]; exact e1⟩, ⟨a, ha, by rw [qadd1_at (by omega), d2]; exact e2⟩, ⟨b, hb, by rw [qadd1_at (by omega), d3]; exact e3⟩⟩
  · exact Or.inl ⟨d, by omega, fun f hf => qadd1_off (by omega) (by omega)⟩
theorem qshl_low {r : Nat → Int32} {a b j : Nat} (h : j < 17) : qshl r a b j = r j := if_neg (by omega)
theorem qshr_low {r : Nat → Int32} {a b j : Nat} (h : j < 17) : qshr r a b j = r j := if_neg (by omega)
theorem qlay_low {r f : Nat → Int32} {t k j : Nat} (h : j < 17) : qlay r t f k j = r j := if_neg (by omega)
theorem qshl_blk {r : Nat → Int32} {a b c f : Nat} (hf : f < 10) : qshl r a b (17 + 10 * c + f) = if a ≤ c ∧ c < b then r (17 + 10 * (c + 1) + f) else r (17 + 10 * c + f) := by
  unfold qshl
  by_cases h : a ≤ c ∧ c < b
  · rw [if_pos (by omega), if_pos h, show 17 + 10 * c + f + 10 = 17 + 10 * (c + 1) + f by omega]
  · rw [if_neg (by omega), if_neg h]
theorem qshr_blk {r : Nat → Int32} {a b c f : Nat} (hf : f < 10) : qshr r a b (17 + 10 * c + f) = if b < c ∧ c ≤ a then r (17 + 10 * (c - 1) + f) else r (17 + 10 * c + f) := by
  unfold qshr
  by_cases h : b < c ∧ c ≤ a
  · rw [if_pos (by omega), if_pos h, show 17 + 10 * c + f - 10 = 17 + 10 * (c - 1) + f by omega]
  · rw [if_neg (by omega), if_neg h]
theorem qlay_blk {r g : Nat → Int32} {t c f : Nat} (hf : f < 10) : qlay r t g 10 (17 + 10 * c + f) = if c = t then g f else r (17 + 10 * c + f) := by
  unfold qlay
  by_cases h : c = t
  · subst h
    rw [if_pos (by omega), if_pos rfl, show 17 + 10 * c + f - (17 + 10 * c) = f by omega]
  · rw [if_neg (by omega), if_neg h]
/-- where the cell at place d behind a move comes from -/
def qfrom (c t d : Nat) : Nat := if d = t then c else if c ≤ d ∧ d < t then d + 1 else if t < d ∧ d ≤ c then d - 1 else d
theorem qmv_blk {r : Nat → Int32} {c t d f : Nat} (hf : f < 10) : qmv r c t (17 + 10 * d + f) = r (17 + 10 * qfrom c t d + f) := by
  unfold qmv qfrom
  rw [qlay_blk hf]
  by_cases h : d = t
  · rw [if_pos h, if_pos h]
  · rw [if_neg h, if_neg h]
    by_cases hct : c < t
    · rw [if_pos hct, qshl_blk hf]
      by_cases h1 : c ≤ d ∧ d < t
      · rw [if_pos h1, if_pos h1]
      · rw [if_neg h1, if_neg h1, if_neg (by omega)]
    · rw [if_neg hct, qshr_blk hf]
      by_cases h1 : t < d ∧ d ≤ c
      · rw [if_pos h1, if_neg (by omega), if_pos h1]
      · rw [if_neg h1, if_neg (by omega), if_neg h1]
theorem qmv_low {r : Nat → Int32} {c t j : Nat} (h : j < 17) : qmv r c t j = r j := by
  unfold qmv
  rw [qlay_low h]
  split
  · exact qshl_low h
  · exact qshr_low h
theorem qRI_del {r : Nat → Int32} {n B c : Nat} (h : qRI r n B) (hc : c < n) : qRI (qshl (qup r 0 (nI (n - 1))) c (n - 1)) (n - 1) B := by
  have hn := h.2.1
  refine qRI_by h (by rw [qshl_low (by omega), qup_at]) (by omega) (by rw [qshl_low (by omega), qup_off (by omega)]; exact h.2.2.1) (by rw [qshl_low (by omega), qup_off (by omega)]) (by rw [qshl_low (by omega), qup_off (by omega)]; exact h.2.2.2.2.1) (fun d hd => Or.inl ?_)
  by_cases e : c ≤ d
  · exact ⟨d + 1, by omega, fun f hf => by rw [qshl_blk hf, if_pos ⟨e, hd⟩, qup_off (by omega)]⟩
  · exact ⟨d, by omega, fun f hf => by rw [qshl_blk hf, if_neg (by omega), qup_off (by omega)]⟩
theorem qfrom_lt {n c t d : Nat} (hc : c < n) (ht : t < n) (hd : d < n) : qfrom c t d < n := by
  unfold qfrom
  split
  · omega
  · split
    · omega
    · split <;> omega
theorem qRI_mv {r : Nat → Int32} {n B c t : Nat} (h : qRI r n B) (hc : c < n) (ht : t < n) : qRI (qmv r c t) n B := by
  have hn := h.2.1
  refine qRI_by h (by rw [qmv_low (by omega)]; exact h.1) hn (by rw [qmv_low (by omega)]; exact h.2.2.1) (qmv_low (by omega)) (by rw [qmv_low (by omega)]; exact h.2.2.2.2.1) (fun d hd => Or.inl ⟨qfrom c t d, qfrom_lt hc ht hd, fun f hf => qmv_blk hf⟩)
theorem qe01 {e : Int32} (h : ¬ e < 0 ∧ ¬ 1 < e) : e = 0 ∨ e = 1 := by
  obtain ⟨k, hk, rfl⟩ := qn10 (m := 1) rfl (by omega) h
  rcases (show k = 0 ∨ k = 1 by omega) with rfl | rfl
  · exact Or.inl rfl
  · exact Or.inr rfl
theorem qRI_set {r : Nat → Int32} {n B : Nat} {e : Int32} (h : qRI r n B) (he : e = 0 ∨ e = 1) : qRI (qup r 1 e) n B := qRI_by h ((qup_off (by omega)).trans h.1) h.2.1 (by rw [qup_at]; exact he) (qup_off (by omega)) (by rw [qup_off (by omega)]; exact h.2.2.2.2.1) (fun d hd => Or.inl ⟨d, hd, fun f hf => qup_off (by omega)⟩)
theorem qRI_eag {r : Nat → Int32} {n B : Nat} (h : qRI r n B) (hB : B + 12 < 2 ^ 30) (h4 : r 4 = 0) : qRI (qeag r n) n (B + 12) := by
  unfold qeag
  split
  · exact (qrt_inv h.2.1 hB h h4 (qcl_all _ h.2.1)).1
  · exact h.mono (by omega)
/-! ===== every call keeps what holds of states ===== -/
theorem qpush_I {P : Nat → Nat → Int32} {q : Nat} {r : Nat → Int32} {B : Nat} (hP : ∀ j, j < q → ∃ n, qRI (P j) n B) (hq : q ≤ 4) (hr : ∃ n, qRI r n B) : qpn q ≤ 4 ∧ ∀ j, j < qpn q → ∃ n, qRI (qpush P q r j) n B := by
  unfold qpn qpush
  by_cases e : q = 4
  · rw [if_pos e, if_pos e]
    refine ⟨Nat.le_refl 4, fun j hj => ?_⟩
    by_cases h3 : j < 3
    · simp only [if_pos h3]
      exact hP (j + 1) (by omega)
    · simp only [if_neg h3]
      exact hr
  · rw [if_neg e, if_neg e]
    refine ⟨by omega, fun j hj => ?_⟩
    by_cases h3 : j < q
    · simp only [if_pos h3]
      exact hP j h3
    · simp only [if_neg h3]
      exact hr
theorem qAI_mono {a : qA} {B B' : Nat} (h : qAI a B) (hB : B ≤ B') : qAI a B' := ⟨h.1.mono hB, h.2.1, fun j hj => by
  obtain ⟨n, hn⟩ := h.2.2 j hj
  exact ⟨n, hn.mono hB⟩⟩
theorem qAI_save {a : qA} {B : Nat} {r : Nat → Int32} {n : Nat} (h : qAI a B) (hr : qRI r n (B + 12)) : qAI (qsave a r n) (B + 12) := by
  have h1 := qpush_I (r := a.1) (B := B + 12) (fun j hj => by obtain ⟨m, hm⟩ := h.2.2 j hj; exact ⟨m, hm.mono (by omega)⟩) h.2.1 ⟨_, h.1.mono (by omega)⟩
  exact ⟨hr, h1.1, h1.2⟩
theorem qAI_fail {a : qA} {B k : Nat} (h : qAI a B) : qAI (qfail a k) B := h
theorem qback_I {a : qA} {B : Nat} (h : qAI a B) (hq : a.2.2.2.1 ≠ 0) : qRI (qback a) (qback a 0).toNatClampNeg B := by
  obtain ⟨n, hn⟩ := h.2.2 (a.2.2.2.1 - 1) (by omega)
  have low : ∀ j, j < 137 → qback a j = a.2.2.1 (a.2.2.2.1 - 1) j := fun j hj => if_pos hj
  have e0 : (qback a 0).toNatClampNeg = n := by
    rw [low 0 (by omega), hn.1]
    exact nI_clamp (by have := hn.2.1; omega)
  rw [e0]
  have hn12 := hn.2.1
  exact qRI_by hn ((low 0 (by omega)).trans hn.1) hn12 (by rw [low 1 (by omega)]; exact hn.2.2.1) (low 2 (by omega)) (by rw [low 4 (by omega)]; exact hn.2.2.2.2.1) (fun d hd => Or.inl ⟨d, hd, fun f hf => low _ (by omega)⟩)
/-! ===== the model's cells behind the loops of saving and copying ===== -/
theorem gPast.fin {Y : gL} {mo : Nat} {ω : gS} {P P1 : Nat → Nat → Int32} {r : Nat → Int32} {q q1 : Nat} (hq1 : q1 ≤ 3) (hp : qpush P q r = fun j => if j < q1 then P1 j else r) (hn : qpn q = q1 + 1) (h2 : ω.1 mo 2 = nI (q1 + 1)) (hc : ∀ j i, j < q1 → i < 137 → ω.1 (gF Y mo 1) (137 * j + i) = P1 j i) (hr : ∀ i, i < 137 → ω.1 (gF Y mo 1) (137 * q1 + i) = r i) : gPast Y mo ω (qpush P q r) (qpn q) := by
  refine ⟨by omega, by rw [hn]; exact h2, fun j i hj hi => ?_⟩
  rw [hp]
  by_cases h : j < q1
  · simp only [if_pos h]
    exact hc j i h hi
  · simp only [if_neg h]
    rw [show j = q1 by omega]
    exact hr i hi
theorem qpush_4 {P : Nat → Nat → Int32} {q : Nat} {r : Nat → Int32} (h : q = 4) : qpush P q r = (fun j => if j < 3 then (fun j => P (j + 1)) j else r) ∧ qpn q = 3 + 1 := by
  unfold qpush qpn
  rw [if_pos h, if_pos h]
  exact ⟨rfl, rfl⟩
theorem qpush_3 {P : Nat → Nat → Int32} {q : Nat} {r : Nat → Int32} (h : q ≠ 4) : qpush P q r = (fun j => if j < q then P j else r) ∧ qpn q = q + 1 := by
  unfold qpush qpn
  rw [if_neg h, if_neg h]
  exact ⟨rfl, rfl⟩
theorem uI_rng2 {σ : gS} {a b i : Nat} {v : Int32} {P : Nat → Int32} (h : ∀ c, c < i → σ.1 a (b + c) = P c) (hv : v = P i) (c : Nat) (hc : c < i + 1) : (uI σ a (b + i) v).1 a (b + c) = P c := by
  by_cases e : c = i
  · subst e
    rw [uI_at, hv]
  · rw [uI_off (by omega)]
    exact h c (by omega)
theorem uI_keep {σ : gS} {a i : Nat} {v : Int32} {P : Nat → Int32} (h : ∀ c, i ≤ c → σ.1 a c = P c) (c : Nat) (hc : i + 1 ≤ c) : (uI σ a i v).1 a c = P c := by
  rw [uI_off (by omega)]
  exact h c (by omega)
theorem qlay_0 {r f : Nat → Int32} {t : Nat} : qlay r t f 0 = r := by
  funext j
  exact if_neg (by omega)
theorem qlay_s {r f : Nat → Int32} {t k : Nat} : qup (qlay r t f k) (17 + 10 * t + k) (f k) = qlay r t f (k + 1) := by
  funext j
  unfold qup qlay
  by_cases h : j = 17 + 10 * t + k
  · subst h
    rw [if_pos rfl, if_pos (by omega), show 17 + 10 * t + k - (17 + 10 * t) = k by omega]
  · rw [if_neg h]
    by_cases h2 : 17 + 10 * t ≤ j ∧ j < 17 + 10 * t + k
    · rw [if_pos h2, if_pos (by omega)]
    · rw [if_neg h2, if_neg (by omega)]
theorem qlay_out {r f : Nat → Int32} {t k j : Nat} (h : j < 17 + 10 * t ∨ 17 + 10 * t + k ≤ j) : qlay r t f k j = r j := if_neg (by omega)
theorem qshl_0 {r : Nat → Int32} {a : Nat} : qshl r a a = r := by
  funext j
  exact if_neg (by omega)
theorem qshl_s {r : Nat → Int32} {a c : Nat} (hac : a ≤ c) : qlay (qshl r a c) c (fun z => qshl r a c (17 + 10 * (c + 1) + z)) 10 = qshl r a (c + 1) := by
  funext j
  unfold qlay
  by_cases h : 17 + 10 * c ≤ j ∧ j < 17 + 10 * c + 10
  · rw [if_pos h]
    unfold qshl
    dsimp only
    rw [if_neg (by omega), if_pos (by omega), show 17 + 10 * (c + 1) + (j - (17 + 10 * c)) = j + 10 by omega]
  · rw [if_neg h]
    unfold qshl
    by_cases h2 : 17 + 10 * a ≤ j ∧ j < 17 + 10 * c
    · rw [if_pos h2, if_pos (by omega)]
    · rw [if_neg h2, if_neg (by omega)]
theorem qshr_0 {r : Nat → Int32} {a : Nat} : qshr r a a = r := by
  funext j
  exact if_neg (by omega)
theorem qshr_s {r : Nat → Int32} {a c : Nat} (hac : c + 1 ≤ a) : qlay (qshr r a (c + 1)) (c + 1) (fun z => qshr r a (c + 1) (17 + 10 * c + z)) 10 = qshr r a c := by
  funext j
  unfold qlay
  by_cases h : 17 + 10 * (c + 1) ≤ j ∧ j < 17 + 10 * (c + 1) + 10
  · rw [if_pos h]
    unfold qshr
    dsimp only
    rw [if_neg (by omega), if_pos (by omega), show 17 + 10 * c + (j - (17 + 10 * (c + 1))) = j - 10 by omega]
  · rw [if_neg h]
    unfold qshr
    by_cases h2 : 17 + 10 * (c + 1 + 1) ≤ j ∧ j < 17 + 10 * (a + 1)
    · rw [if_pos h2, if_pos (by omega)]
    · rw [if_neg h2, if_neg (by omega)]
theorem gRow.cnt {Y : gL} {mo : Nat} {σ : gS} {r : Nat → Int32} {n m : Nat} (h : gRow Y mo σ r n) (hm : m ≤ 12) : gRow Y mo (uI σ (gF Y mo 0) 0 (nI m)) (qup r 0 (nI m)) m := by
  refine ⟨?_, qup_at, hm⟩
  rw [← h.1]
  funext j
  simp [uI, qup]
theorem gMA.row {Y : gL} {mo : Nat} {σ τ : gS} {a : qA} {rs : List Nat} {r : Nat → Int32} {n : Nat} (h : gMA Y mo σ a) (hM : gLM Y mo) (he : gEq Y rs σ τ) (h2 : τ.1 mo 2 = σ.1 mo 2) (h17 : 17 ∉ rs) (h18 : 18 ∉ rs) (hr : gRow Y mo τ r n) : gMA Y mo τ (r, n, a.2.2.1, a.2.2.2.1, a.2.2.2.2) := ⟨hr, h.2.1.eq hM he h2 h17, by rw [he.at (gM3 hM) h18]; exact h.2.2⟩
theorem nI_dec {x : Nat} (h : 0 < x) : nI x + (-1) = nI (x - 1) := by
  obtain ⟨y, rfl⟩ : ∃ y, x = y + 1 := ⟨x - 1, by omega⟩
  exact pk_m1 y
theorem qshr_p {r : Nat → Int32} {a x : Nat} (h0 : 0 < x) (hxa : x ≤ a) : qlay (qshr r a x) x (fun z => qshr r a x (17 + 10 * (x - 1) + z)) 10 = qshr r a (x - 1) := by
  obtain ⟨y, rfl⟩ : ∃ y, x = y + 1 := ⟨x - 1, by omega⟩
  exact qshr_s hxa
theorem qcl_congr {g : qG} (hn : qn g ≤ 12) {s1 s2 : Int32} (h : ∀ d, d < qn g → qt s1 d = qt s2 d) (hc : qcl g s1) : qcl g s2 := by
  intro c s hc1 hs hs12 hb
  have h3 : s < qn g := by
    rcases hs with e | e
    · have := qsrc_lt hn (x := qL g c) (by omega); omega
    · have := qsrc_lt hn (x := qR g c) (by omega); omega
  rw [← h s h3]
  exact hc c s hc1 hs hs12 (by rw [h c hc1]; exact hb)
theorem qset_arr {g : qG} (hn : qn g ≤ 12) {A : Int32} {c : Nat} (hc : c < qn g) (hA : ∀ d, d < qn g → qt A d = qall g c d) : ∀ d, d < qn g → qt (qset g c) d = qt (A ||| qb c) d := by
  intro d hd
  have h1 := qset_bit hn hc (d := d) (by omega)
  have h2 : qt (A ||| qb c) d = (qall g c d || decide (d = c)) := by rw [qt_or _ _ (by omega), hA d hd, qt_qb (by omega) (by omega)]
  rw [h2]
  cases e : qt (qset g c) d
  · cases e2 : (qall g c d || decide (d = c))
    · rfl
    · exfalso
      have : qt (qset g c) d = true := h1.mpr ⟨hd, by simpa using e2⟩
      rw [e] at this
      cases this
  · have := (h1.mp e).2
    simp [this]
theorem uJ_uJ {σ : gS} {a : Nat} {x y : Int64} : uJ (uJ σ a x) a y = uJ σ a y := by
  unfold uJ
  refine Prod.ext rfl (Prod.ext rfl ?_)
  funext b
  dsimp only
  split <;> rfl
theorem uJ_at {σ : gS} {a : Nat} {x : Int64} : (uJ σ a x).2.2 a = x := by simp [uJ]
def qbk (r f : Nat → Int32) (k : Nat) : Nat → Int32 := fun z => if z < k then f z else r z
theorem qbk_s {r f : Nat → Int32} {k : Nat} : qup (qbk r f k) k (f k) = qbk r f (k + 1) := by
  funext z
  unfold qup qbk
  by_cases h : z = k
  · subst h
    rw [if_pos rfl, if_pos (by omega)]
  · rw [if_neg h]
    by_cases h2 : z < k
    · rw [if_pos h2, if_pos (by omega)]
    · rw [if_neg h2, if_neg (by omega)]
theorem qbk_0 {r f : Nat → Int32} : qbk r f 0 = r := by
  funext z
  exact if_neg (by omega)
theorem uI_now {σ : gS} {a k : Nat} {v : Int32} {r : Nat → Int32} (h : σ.1 a = r) : (uI σ a k v).1 a = qup r k v := by
  rw [← h]
  funext j
  simp [uI, qup]
theorem qlay_cg {r f g : Nat → Int32} {t k : Nat} (h : ∀ z, z < k → f z = g z) : qlay r t f k = qlay r t g k := by
  funext j
  unfold qlay
  by_cases q : 17 + 10 * t ≤ j ∧ j < 17 + 10 * t + k
  · rw [if_pos q, if_pos q, h _ (by omega)]
  · rw [if_neg q, if_neg q]
