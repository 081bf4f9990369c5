/-! ===== rows of the class's states: copying, appending, moving ===== -/
theorem zC.by {F F' : Nat → Int32} {r r' : Nat → Int32} {i j : Nat} (h : zC F r j) (hF : ∀ k, k < 9 → F' k = F k) (hr : ∀ k, k < 10 → r' (17 + 10 * i + k) = r (17 + 10 * j + k)) : zC F' r' i := by
  obtain ⟨h0, h1, h2, h3, h5, h8, h9⟩ := h
  refine ⟨?_, ?_, ?_, ?_, ?_, ?_, fun hv => ?_⟩
  · rw [hF 0 (by omega), hr 0 (by omega)]; exact h0
  · rw [hF 1 (by omega), hr 1 (by omega)]; exact h1
  · rw [hF 2 (by omega), hr 2 (by omega)]; exact h2
  · rw [hF 3 (by omega), hr 3 (by omega)]; exact h3
  · rw [hF 5 (by omega), hr 5 (by omega)]; exact h5
  · rw [hF 8 (by omega), hr 8 (by omega)]; exact h8
  · rw [hr 5 (by omega)] at hv
    rw [hF 4 (by omega), hF 6 (by omega), hF 7 (by omega), hr 4 (by omega), hr 6 (by omega), hr 7 (by omega)]
    exact h9 hv
/-- a state of the class, copied into another's cells -/
def zCp (Y : gL) (σ τ : gS) (t u : Nat) : Prop := zN (zW Y t) σ τ ∧ (∀ j, j < 7 → j ≠ 0 → j ≠ 5 → τ.1 t j = σ.1 u j) ∧ ∀ x, x < 12 → (∀ k, k < 9 → τ.1 (σ.2.1 (gF Y t 0) x) k = σ.1 (σ.2.1 (gF Y u 0) x) k) ∧ τ.1 (gF Y t 5) x = σ.1 (gF Y u 5) x
theorem zCp.B {Y : gL} {σ τ : gS} {t u n : Nat} {r : Nat → Int32} (h : zCp Y σ τ t u) (hB : zB Y σ u r n) : zB Y τ t r n := by
  obtain ⟨h1, h2, h3⟩ := h
  obtain ⟨b0, b1, b2, b3, b4, b5, b6⟩ := hB
  refine ⟨b0, b1, by rw [h2 1 (by omega) (by omega) (by omega)]; exact b2, by rw [h2 2 (by omega) (by omega) (by omega)]; exact b3, by rw [h2 3 (by omega) (by omega) (by omega)]; exact b4, by rw [h2 4 (by omega) (by omega) (by omega)]; exact b5, fun i hi => ?_⟩
  rw [h1.1]
  exact (b6 i hi).by (h3 i (by omega)).1 (fun k _ => rfl)
theorem zCp.L {Y : gL} {σ τ : gS} {t u : Nat} {r : Nat → Int32} (h : zCp Y σ τ t u) (hB : zL Y σ u r) : zL Y τ t r := by
  obtain ⟨h1, h2, h3⟩ := h
  obtain ⟨k, b0, b1, b2, b3⟩ := hB
  exact ⟨k, b0, b1, by rw [h2 6 (by omega) (by omega) (by omega)]; exact b2, fun j hj => by rw [(h3 j (by omega)).2]; exact b3 j hj⟩
/-- one more cell -/
theorem zB.add {Y : gL} {σ τ : gS} {t n : Nat} {r : Nat → Int32} {v op x y : Int32} (h : zB Y σ t r n) (hn : n < 12) (he : τ.2 = σ.2) (h1 : τ.1 t 1 = nI (n + 1)) (h2 : ∀ j, j ≠ 1 → τ.1 t j = σ.1 t j) (hk : ∀ i, i < n → τ.1 (σ.2.1 (gF Y t 0) i) = σ.1 (σ.2.1 (gF Y t 0) i)) (c0 : τ.1 (σ.2.1 (gF Y t 0) n) 0 = v) (c1 : τ.1 (σ.2.1 (gF Y t 0) n) 1 = op) (c2 : τ.1 (σ.2.1 (gF Y t 0) n) 2 = x) (c3 : τ.1 (σ.2.1 (gF Y t 0) n) 3 = y) (c5 : τ.1 (σ.2.1 (gF Y t 0) n) 5 = 0) (c8 : τ.1 (σ.2.1 (gF Y t 0) n) 8 = 0) : zB Y τ t (qadd1 r n v op x y) (n + 1) := by
  obtain ⟨b0, b1, b2, b3, b4, b5, b6⟩ := h
  refine ⟨qadd1_0, by omega, h1, ?_, ?_, ?_, fun i hi => ?_⟩
  · rw [h2 2 (by omega), qadd1_off (by omega) (by omega)]; exact b3
  · rw [h2 3 (by omega), qadd1_off (by omega) (by omega)]; exact b4
  · rw [h2 4 (by omega), qadd1_off (by omega) (by omega)]; exact b5
  · rw [he]
    by_cases e : i = n
    · subst e
      obtain ⟨d0, d1, d2, d3, d4, d5, d6, d7⟩ := qdef_at (r := qsv r) (c := i) (v := v) (op := op) (x := x) (y := y)
      refine ⟨?_, ?_, ?_, ?_, ?_, ?_, fun hv => ?_⟩
      · rw [c0, qadd1_at (by omega), d0]
      · rw [c1, qadd1_at (by omega), d1]
      · rw [c2, qadd1_at (by omega), d2]
      · rw [c3, qadd1_at (by omega), d3]
      · rw [c5, qadd1_at (by omega), d5]
      · rw [c8, qadd1_8]
      · rw [qadd1_at (by omega), d5] at hv
        exact absurd rfl hv
    · refine (b6 i (by omega)).by (fun k _ => by rw [hk i (by omega)]) (fun k hk => ?_)
      rw [qadd1_off (by omega) (by omega)]
      exact qup_off (by omega)
/-- a cell defined anew -/
theorem zB.def {Y : gL} {σ τ : gS} {t n c1 : Nat} {r : Nat → Int32} {v op x y : Int32} (h : zB Y σ t r n) (hi1 : c1 < n) (he : τ.2 = σ.2) (h2 : τ.1 t = σ.1 t) (hk : ∀ i, i < n → i ≠ c1 → τ.1 (σ.2.1 (gF Y t 0) i) = σ.1 (σ.2.1 (gF Y t 0) i)) (e0 : τ.1 (σ.2.1 (gF Y t 0) c1) 0 = v) (e1 : τ.1 (σ.2.1 (gF Y t 0) c1) 1 = op) (e2 : τ.1 (σ.2.1 (gF Y t 0) c1) 2 = x) (e3 : τ.1 (σ.2.1 (gF Y t 0) c1) 3 = y) (e5 : τ.1 (σ.2.1 (gF Y t 0) c1) 5 = 0) (e8 : τ.1 (σ.2.1 (gF Y t 0) c1) 8 = σ.1 (σ.2.1 (gF Y t 0) c1) 8) : zB Y τ t (qdef (qsv r) c1 v op x y) n := by
  obtain ⟨b0, b1, b2, b3, b4, b5, b6⟩ := h
  have lo : ∀ j, j < 17 → j ≠ 4 → qdef (qsv r) c1 v op x y j = r j := fun j hj h4 => (qdef_off (by omega)).trans (qup_off h4)
  refine ⟨by rw [lo 0 (by omega) (by omega)]; exact b0, b1, by rw [h2]; exact b2, by rw [h2, lo 1 (by omega) (by omega)]; exact b3, by rw [h2, lo 3 (by omega) (by omega)]; exact b4, by rw [h2, lo 2 (by omega) (by omega)]; exact b5, fun i hi => ?_⟩
  rw [he]
  by_cases e : i = c1
  · subst e
    obtain ⟨d0, d1, d2, d3, d4, d5, d6, d7⟩ := qdef_at (r := qsv r) (c := i) (v := v) (op := op) (x := x) (y := y)
    refine ⟨by rw [e0, d0], by rw [e1, d1], by rw [e2, d2], by rw [e3, d3], by rw [e5, d5], ?_, fun hv => absurd d5 hv⟩
    rw [e8, qdef_off (by omega), (b6 i hi).2.2.2.2.2.1]
    exact (qup_off (by omega)).symm
  · refine (b6 i hi).by (fun k _ => by rw [hk i hi e]) (fun k hk => ?_)
    rw [qdef_off (by omega)]
    exact qup_off (by omega)
/-- a state's cells moved -/
def zMv (Y : gL) (t i j : Nat) (σ τ : gS) : Prop := τ.1 = σ.1 ∧ τ.2.2 = σ.2.2 ∧ (∀ a, a ≠ gF Y t 0 → τ.2.1 a = σ.2.1 a) ∧ ∀ d, τ.2.1 (gF Y t 0) d = σ.2.1 (gF Y t 0) (qfrom i j d)
theorem zMv.B {Y : gL} {t i j n : Nat} {σ τ : gS} {r : Nat → Int32} (h : zMv Y t i j σ τ) (hB : zB Y σ t r n) (hi : i < n) (hj : j < n) : zB Y τ t (qmv (qsv r) i j) n := by
  obtain ⟨h1, h2, h3, h4⟩ := h
  obtain ⟨b0, b1, b2, b3, b4, b5, b6⟩ := hB
  have lo : ∀ x, x < 17 → x ≠ 4 → qmv (qsv r) i j x = r x := fun x hx h4 => (qmv_low hx).trans (qup_off h4)
  refine ⟨by rw [lo 0 (by omega) (by omega)]; exact b0, b1, by rw [h1]; exact b2, by rw [h1, lo 1 (by omega) (by omega)]; exact b3, by rw [h1, lo 3 (by omega) (by omega)]; exact b4, by rw [h1, lo 2 (by omega) (by omega)]; exact b5, fun d hd => ?_⟩
  rw [h1, h4]
  refine (b6 _ (qfrom_lt hi hj hd)).by (fun _ _ => rfl) (fun k hk => ?_)
  rw [qmv_blk hk]
  exact qup_off (by omega)
theorem zMv.del {Y : gL} {t i n : Nat} {σ ω τ : gS} {r : Nat → Int32} (h : zMv Y t i (n - 1) σ ω) (hτ : uI ω t 1 (nI (n - 1)) = τ) (hB : zB Y σ t r n) (ht : gK Y t = 11) (hc : zCs Y ω.2.1 t) (hi : i < n) : zB Y τ t (qshl (qup (qsv r) 0 (nI (n - 1))) i (n - 1)) (n - 1) := by
  subst hτ
  obtain ⟨h1, h2, h3, h4⟩ := h
  obtain ⟨b0, b1, b2, b3, b4, b5, b6⟩ := hB
  have lo : ∀ x, x < 17 → x ≠ 4 → x ≠ 0 → qshl (qup (qsv r) 0 (nI (n - 1))) i (n - 1) x = r x := fun x hx h4 h0 => (qshl_low hx).trans ((qup_off h0).trans (qup_off h4))
  refine ⟨(qshl_low (by omega)).trans qup_at, by omega, uI_at, ?_, ?_, ?_, fun d hd => ?_⟩
  · rw [uI_off (by omega), h1, lo 1 (by omega) (by omega) (by omega)]; exact b3
  · rw [uI_off (by omega), h1, lo 3 (by omega) (by omega) (by omega)]; exact b4
  · rw [uI_off (by omega), h1, lo 2 (by omega) (by omega) (by omega)]; exact b5
  · have hne : ω.2.1 (gF Y t 0) d ≠ t := gK_ne (hc d (by omega)).1 ht (by decide)
    show zC ((uI ω t 1 (nI (n - 1))).1 (ω.2.1 (gF Y t 0) d)) _ d
    rw [uI_ne hne, h1, h4]
    have hf : qfrom i (n - 1) d = if i ≤ d then d + 1 else d := by
      unfold qfrom
      rw [if_neg (by omega)]
      by_cases e : i ≤ d
      · rw [if_pos ⟨e, hd⟩, if_pos e]
      · rw [if_neg (by omega), if_neg (by omega), if_neg e]
    rw [hf]
    by_cases e : i ≤ d
    · rw [if_pos e]
      refine (b6 (d + 1) (by omega)).by (fun _ _ => rfl) (fun k hk => ?_)
      rw [qshl_blk hk, if_pos ⟨e, hd⟩, qup_off (by omega)]
      exact qup_off (by omega)
    · rw [if_neg e]
      refine (b6 d (by omega)).by (fun _ _ => rfl) (fun k hk => ?_)
      rw [qshl_blk hk, if_neg (by omega), qup_off (by omega)]
      exact qup_off (by omega)
theorem zfrom_12 {i j d : Nat} (hi : i < 12) (hj : j < 12) (hd : d < 12) : qfrom i j d < 12 := qfrom_lt hi hj hd
theorem zfrom_inj {i j d x : Nat} (h : qfrom i j d = qfrom i j x) : d = x := by
  unfold qfrom at h
  split at h <;> split at h <;> (try split at h) <;> (try split at h) <;> (try split at h) <;> (try split at h) <;> omega
theorem zMv.Rf {Y : gL} {nb i j : Nat} {σ τ : gS} (h : zMv Y (gF Y nb 0) i j σ τ) (hM : zLC Y nb) (hR : zRf Y nb σ.2.1) (hi : i < 12) (hj : j < 12) : zRf Y nb τ.2.1 := by
  obtain ⟨h1, h2, h3, h4⟩ := h
  obtain ⟨m1, m2, m3, m4, m5, m6⟩ := hM
  refine ⟨fun t ht => ?_, ?_⟩
  · by_cases e : t = gF Y nb 0
    · subst e
      intro x hx
      rw [h4]
      obtain ⟨a1, a2, a3⟩ := hR.1 _ ht (qfrom i j x) (zfrom_12 hi hj hx)
      refine ⟨a1, a2, fun y hy hxy => ?_⟩
      rw [h4] at hxy
      exact zfrom_inj (a3 _ (zfrom_12 hi hj hy) hxy)
    · have e2 : gF Y t 0 ≠ gF Y (gF Y nb 0) 0 := fun q => e (by rw [← (m6 t ht).2.2.2.2, q, (m6 _ m2).2.2.2.2])
      intro x hx
      rw [h3 _ e2]
      exact hR.1 t ht x hx
  · have e2 : gF Y nb 1 ≠ gF Y (gF Y nb 0) 0 := gK_ne m3 (m6 _ m2).1 (by decide)
    rw [h3 _ e2]
    exact hR.2
theorem zMv.H {Y : gL} {nb i j : Nat} {σ τ : gS} {P : Nat → Nat → Int32} {q : Nat} {cn : Nat → Int32} (h : zMv Y (gF Y nb 0) i j σ τ) (hM : zLC Y nb) (hH : zH Y nb σ P q cn) (hi : i < 12) (hj : j < 12) : zH Y nb τ P q cn := by
  have hR := hH.1
  refine ⟨h.Rf hM hR hi hj, ?_, by rw [h.1]; exact hH.2.2⟩
  obtain ⟨h1, h2, h3, h4⟩ := h
  obtain ⟨m1, m2, m3, m4, m5, m6⟩ := hM
  obtain ⟨p1, p2, p3⟩ := hH.2.1
  have e2 : gF Y nb 1 ≠ gF Y (gF Y nb 0) 0 := gK_ne m3 (m6 _ m2).1 (by decide)
  refine ⟨p1, by rw [h1]; exact p2, fun x hx => ?_⟩
  obtain ⟨n, b, b2⟩ := p3 x hx
  rw [h3 _ e2]
  have hu := hR.2 x (by omega)
  have e3 : gF Y (σ.2.1 (gF Y nb 1) x) 0 ≠ gF Y (gF Y nb 0) 0 := fun z => hu.2.1 (by rw [← (m6 _ hu.1).2.2.2.2, z, (m6 _ m2).2.2.2.2])
  refine ⟨n, ?_, ?_⟩
  · unfold zB
    rw [h1, h3 _ e3]
    exact b
  · unfold zL
    rw [h1]
    exact b2
/-- the row but for the last run's count -/
theorem zB.sv {Y : gL} {σ : gS} {t n : Nat} {r : Nat → Int32} (h : zB Y σ t r n) : zB Y σ t (qsv r) n := by
  obtain ⟨b0, b1, b2, b3, b4, b5, b6⟩ := h
  exact ⟨b0, b1, b2, b3, b4, b5, fun i hi => (b6 i hi).by (fun _ _ => rfl) (fun k _ => qup_off (by omega))⟩
theorem uG_if {σ : gS} {a k v b j : Nat} : (uG σ a k v).2.1 b j = if b = a ∧ j = k then v else σ.2.1 b j := rfl
def zm1 (i x d : Nat) : Nat := if i ≤ d ∧ d < x then d + 1 else d
def zm2 (i j x d : Nat) : Nat := if x < d ∧ d ≤ i then d - 1 else if i ≤ d ∧ d < j then d + 1 else d
/-- only one array of references changed -/
def zU (b : Nat) (σ ω : gS) : Prop := ω.1 = σ.1 ∧ ω.2.2 = σ.2.2 ∧ ∀ a, a ≠ b → ω.2.1 a = σ.2.1 a
theorem zU.rf {b : Nat} {σ : gS} : zU b σ σ := ⟨rfl, rfl, fun _ _ => rfl⟩
theorem zU.put {b k v : Nat} {σ ω : gS} (h : zU b σ ω) : zU b σ (uG ω b k v) := ⟨h.1, h.2.1, fun a ha => (uG_ne ha).trans (h.2.2 a ha)⟩
theorem z9 {f : Nat} (h : f < 9) : f = 0 ∨ f = 1 ∨ f = 2 ∨ f = 3 ∨ f = 4 ∨ f = 5 ∨ f = 6 ∨ f = 7 ∨ f = 8 := by omega
theorem z5 {j : Nat} (h : j < 7) (h0 : j ≠ 0) (h5 : j ≠ 5) : j = 1 ∨ j = 2 ∨ j = 3 ∨ j = 4 ∨ j = 6 := by omega
