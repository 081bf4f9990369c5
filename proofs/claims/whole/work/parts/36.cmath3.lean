/-! ===== the notebook's own: saving, what is told of a cell ===== -/
/-- about to save: place q1 of the saved states is free -/
def zSv (Y : gL) (nb : Nat) (σ ω : gS) (P : Nat → Nat → Int32) (q : Nat) (cn : Nat → Int32) (r : Nat → Int32) (n q1 : Nat) (P1 : Nat → Nat → Int32) : Prop := zRf Y nb ω.2.1 ∧ q1 ≤ 3 ∧ ω.1 nb 2 = nI q1 ∧ (∀ j, j < q1 → ∃ n, zB Y ω (ω.2.1 (gF Y nb 1) j) (P1 j) n ∧ zL Y ω (ω.2.1 (gF Y nb 1) j) (P1 j)) ∧ ω.1 (gF Y nb 3) = cn ∧ zB Y ω (gF Y nb 0) r n ∧ zL Y ω (gF Y nb 0) r ∧ (∀ a, gK Y a ∈ [2, 5, 6, 7, 8, 9, 10] → ω.1 a = σ.1 a) ∧ ω.1 nb 5 = σ.1 nb 5 ∧ (qpush P q r = fun j => if j < q1 then P1 j else r) ∧ qpn q = q1 + 1
theorem zSv.now {Y : gL} {nb q n : Nat} {σ : gS} {P : Nat → Nat → Int32} {cn r : Nat → Int32} (hH : zH Y nb σ P q cn) (hB : zB Y σ (gF Y nb 0) r n) (hL : zL Y σ (gF Y nb 0) r) (hq : q < 4) : zSv Y nb σ σ P q cn r n q P :=
  ⟨hH.1, by omega, hH.2.1.2.1, hH.2.1.2.2, hH.2.2, hB, hL, fun _ _ => rfl, rfl, (qpush_3 (by omega)).1, (qpush_3 (P := P) (r := r) (by omega)).2⟩
/-- the oldest dropped -/
def zDr (Y : gL) (nb : Nat) (σ τ : gS) : Prop := ∃ ω, zU (gF Y nb 1) σ ω ∧ (∀ k, k < 4 → ω.2.1 (gF Y nb 1) k = σ.2.1 (gF Y nb 1) (if k = 3 then 0 else k + 1)) ∧ uI ω nb 2 3 = τ
theorem zDr.sv {Y : gL} {nb q n : Nat} {σ τ : gS} {P : Nat → Nat → Int32} {cn r : Nat → Int32} (h : zDr Y nb σ τ) (hM : zLC Y nb) (hH : zH Y nb σ P q cn) (hB : zB Y σ (gF Y nb 0) r n) (hL : zL Y σ (gF Y nb 0) r) (hq : q = 4) : zSv Y nb σ τ P q cn r n 3 (fun j => P (j + 1)) := by
  obtain ⟨ω, ⟨u1, u2, u3⟩, hr, rfl⟩ := h
  obtain ⟨hR, ⟨p1, p2, p3⟩, h4⟩ := hH
  have m6 := hM.2.2.2.2.2
  have hcs : ∀ t, gK Y t = 11 → ω.2.1 (gF Y t 0) = σ.2.1 (gF Y t 0) := fun t ht => u3 _ (gK_ne (m6 t ht).1 hM.2.2.1 (by decide))
  have hR2 : zRf Y nb ω.2.1 := by
    refine ⟨fun t ht => ?_, fun k hk => ?_⟩
    · unfold zCs
      rw [hcs t ht]
      exact hR.1 t ht
    · rw [hr k hk]
      have hk2 : (if k = 3 then 0 else k + 1) < 4 := by split <;> omega
      refine ⟨(hR.2 _ hk2).1, (hR.2 _ hk2).2.1, fun j hj he => ?_⟩
      rw [hr j hj] at he
      have := (hR.2 _ hk2).2.2 _ (show (if j = 3 then 0 else j + 1) < 4 by split <;> omega) he
      split at this <;> split at this <;> omega
  have tB : ∀ t, gK Y t = 11 → ∀ r n, zB Y σ t r n → zB Y (uI ω nb 2 3) t r n := fun t ht r n hb => by
    refine zB.put (σ := ω) ?_ m6 ht (hR2.1 t ht) (znb hM)
    unfold zB
    rw [u1, hcs t ht]
    exact hb
  have tL : ∀ t, gK Y t = 11 → ∀ r, zL Y σ t r → zL Y (uI ω nb 2 3) t r := fun t ht r hb => by
    refine zL.put (σ := ω) ?_ m6 ht (znb hM)
    unfold zL
    rw [u1]
    exact hb
  refine ⟨hR2, by omega, uI_at, fun j hj => ?_, ?_, tB _ hM.2.1 r n hB, tL _ hM.2.1 r hL, fun a ha => ?_, ?_, (qpush_4 hq).1, (qpush_4 (P := P) (r := r) hq).2⟩
  · show ∃ n, zB Y (uI ω nb 2 3) (ω.2.1 (gF Y nb 1) j) (P (j + 1)) n ∧ zL Y (uI ω nb 2 3) (ω.2.1 (gF Y nb 1) j) (P (j + 1))
    rw [hr j (by omega), if_neg (by omega)]
    obtain ⟨n2, b1, b2⟩ := p3 (j + 1) (by omega)
    exact ⟨n2, tB _ (hR.2 _ (by omega)).1 _ _ b1, tL _ (hR.2 _ (by omega)).1 _ b2⟩
  · rw [uI_ne (gK_ne hM.2.2.2.1 hM.1 (by decide)), u1]
    exact h4
  · have hne : a ≠ nb := fun e => by rw [e, hM.1] at ha; revert ha; decide
    rw [uI_ne hne, u1]
  · rw [uI_off (by decide), u1]
/-- saved -/
def zSd (Y : gL) (nb : Nat) (σ τ : gS) (P : Nat → Nat → Int32) (q : Nat) (cn : Nat → Int32) (r : Nat → Int32) (n : Nat) : Prop := zH Y nb τ (qpush P q r) (qpn q) cn ∧ zB Y τ (gF Y nb 0) r n ∧ zL Y τ (gF Y nb 0) r ∧ (∀ a, gK Y a ∈ [2, 5, 6, 7, 8, 9, 10] → τ.1 a = σ.1 a) ∧ τ.1 nb 5 = σ.1 nb 5
theorem zSv.fin {Y : gL} {nb q n q1 : Nat} {σ ω τ : gS} {P P1 : Nat → Nat → Int32} {cn r : Nat → Int32} (h : zSv Y nb σ ω P q cn r n q1 P1) (hM : zLC Y nb) (hc : zCp Y ω τ (ω.2.1 (gF Y nb 1) q1) (gF Y nb 0)) : zSd Y nb σ (uI τ nb 2 (nI (q1 + 1))) P q cn r n := by
  obtain ⟨hR, h3, h2, hp, h4, hB, hL, hs, h5, hP, hq⟩ := h
  have m6 := hM.2.2.2.2.2
  have hz := hc.1
  have hr1 : τ.2 = ω.2 := hz.1
  have hs1 := (hR.2 q1 (by omega)).1
  have hR2 : zRf Y nb τ.2.1 := by rw [hr1]; exact hR
  have tB : ∀ t, gK Y t = 11 → t ≠ ω.2.1 (gF Y nb 1) q1 → ∀ r n, zB Y ω t r n → zB Y (uI τ nb 2 (nI (q1 + 1))) t r n := fun t ht hne r n hb =>
    (hb.same m6 ht (hR.1 t ht) hr1 (fun a ha => hz.2 a (ha.ne hne))).put m6 ht (hR2.1 t ht) (znb hM)
  have tL : ∀ t, gK Y t = 11 → t ≠ ω.2.1 (gF Y nb 1) q1 → ∀ r, zL Y ω t r → zL Y (uI τ nb 2 (nI (q1 + 1))) t r := fun t ht hne r hb =>
    (hb.same m6 ht (fun a ha => hz.2 a (ha.ne hne))).put m6 ht (znb hM)
  refine ⟨⟨hR2, ⟨by omega, by rw [hq]; exact uI_at, fun j hj => ?_⟩, ?_⟩, tB _ hM.2.1 (hR.2 q1 (by omega)).2.1.symm _ _ hB, tL _ hM.2.1 (hR.2 q1 (by omega)).2.1.symm _ hL, fun a ha => ?_, ?_⟩
  · rw [hq] at hj
    show ∃ n, zB Y (uI τ nb 2 (nI (q1 + 1))) (τ.2.1 (gF Y nb 1) j) (qpush P q r j) n ∧ zL Y (uI τ nb 2 (nI (q1 + 1))) (τ.2.1 (gF Y nb 1) j) (qpush P q r j)
    rw [hr1, hP]
    by_cases e : j < q1
    · have hne : ω.2.1 (gF Y nb 1) j ≠ ω.2.1 (gF Y nb 1) q1 := fun z => by
        have := (hR.2 j (by omega)).2.2 q1 (by omega) z
        omega
      obtain ⟨n2, b1, b2⟩ := hp j e
      show ∃ n, zB Y _ _ (if j < q1 then P1 j else r) n ∧ zL Y _ _ (if j < q1 then P1 j else r)
      rw [if_pos e]
      exact ⟨n2, tB _ (hR.2 j (by omega)).1 hne _ _ b1, tL _ (hR.2 j (by omega)).1 hne _ b2⟩
    · obtain rfl : j = q1 := by omega
      show ∃ n, zB Y _ _ (if j < j then P1 j else r) n ∧ zL Y _ _ (if j < j then P1 j else r)
      rw [if_neg e]
      exact ⟨n, (hc.B hB).put m6 hs1 (hR2.1 _ hs1) (znb hM), (hc.L hL).put m6 hs1 (znb hM)⟩
  · rw [uI_ne (gK_ne hM.2.2.2.1 hM.1 (by decide)), hz.2 _ (fun w => w.role hM.2.2.2.1 (by decide) (by decide) (by decide))]
    exact h4
  · have hne : a ≠ nb := fun e => by rw [e, hM.1] at ha; revert ha; decide
    rw [uI_ne hne, hz.2 _ (fun w => w.no (by decide) (by decide) (by decide) ha)]
    exact hs a ha
  · rw [uI_off (by decide), hz.2 _ (znb hM)]
    exact h5
/-- nothing fails but the counter -/
theorem zA.fail {Y : gL} {nb k : Nat} {σ : gS} {a : qA} (h : zA Y nb σ a) (hM : zLC Y nb) : zA Y nb (uI σ (gF Y nb 3) k (σ.1 (gF Y nb 3) k + 1)) (qfail a k) := by
  obtain ⟨⟨hR, ⟨p1, p2, p3⟩, h4⟩, hB, hL, hG, hF⟩ := h
  have m6 := hM.2.2.2.2.2
  have hw : ∀ {t}, ¬ zW Y t (gF Y nb 3) := fun z => z.role hM.2.2.2.1 (by decide) (by decide) (by decide)
  have h31 : nb ≠ gF Y nb 3 := gK_ne hM.1 hM.2.2.2.1 (by decide)
  refine ⟨⟨hR, ⟨p1, by rw [uI_ne h31]; exact p2, fun j hj => ?_⟩, ?_⟩, hB.put m6 hM.2.1 (hR.1 _ hM.2.1) hw, hL.put m6 hM.2.1 hw, hG.same hM.2.2.2.2.1 (fun b hb => uI_ne (fun e => by rw [e, hM.2.2.2.1] at hb; revert hb; decide)), ?_⟩
  · have hj4 : j < 4 := Nat.lt_of_lt_of_le hj p1
    obtain ⟨n, b1, b2⟩ := p3 j hj
    exact ⟨n, b1.put m6 (hR.2 j (by omega)).1 (hR.1 _ (hR.2 j (by omega)).1) hw, b2.put m6 (hR.2 j (by omega)).1 hw⟩
  · funext j
    show (uI σ (gF Y nb 3) k (σ.1 (gF Y nb 3) k + 1)).1 (gF Y nb 3) j = qup a.2.2.2.2 k (a.2.2.2.2 k + 1) j
    by_cases e : j = k
    · rw [e, uI_at, qup_at, h4]
    · rw [uI_off e, qup_off e, h4]
  · rw [uI_ne h31]
    exact hF
/-- a fresh cell has a result -/
theorem zF5 {r : Nat → Int32} {n B i : Nat} (hI : qRI r n B) (hB : B < 2 ^ 31) (hi : i < n) (hF : qF (qg r n) r i = true) : r (17 + 10 * i + 5) ≠ 0 ∧ qrok (r (17 + 10 * i + 4)) := by
  obtain ⟨f, hf⟩ := qfr_fn _ hF
  unfold qfn at hf
  simp only [Bool.and_eq_true, decide_eq_true_eq] at hf
  obtain ⟨u, hu, -, hv⟩ := hI.2.2.2.1
  obtain ⟨w, hw2, hv2⟩ := hv i hi
  have h5 := (qver_pos (B := B) hB (by omega) hv2).mp hf.1
  exact ⟨h5, ((hI.2.2.2.2.2 i hi).2.2.2 h5).1⟩
theorem zsta_e {v : Int32} (hv : qrok v) (h : ¬ zenc v < 10000) : 9999 < v ∧ v - 20000 = zenc v - 10000 := by
  rcases hv with ⟨h1, h2⟩ | e | e | e
  · exfalso
    apply h
    rw [zenc_lo h2]
    rw [i32lt, show (9999 : Int32).toInt = 9999 by decide] at h2
    rw [i32lt, show (10000 : Int32).toInt = 10000 by decide]
    omega
  all_goals (subst e; decide)
theorem zsta_n {v : Int32} (hv : qrok v) (h : ¬ ¬ zenc v < 10000) : ¬ 9999 < v := by
  rcases zok_enc hv with ⟨a1, a2, a3⟩ | ⟨a1, a2, a3, a4⟩
  · exact fun _ => h a2
  · exact a2
theorem zsta_1 {g : qG} {r : Nat → Int32} {i : Nat} (h0 : qw g i = 0) (hF : ¬ qF g r i = true) : qsta g r i = 1 := by
  unfold qsta
  rw [if_neg (fun q => q h0), if_neg hF]
theorem zsta_2 {g : qG} {r : Nat → Int32} {i : Nat} (h0 : qw g i = 0) (hF : qF g r i = true) : qsta g r i = if 9999 < r (17 + 10 * i + 4) then r (17 + 10 * i + 4) - 20000 else 0 := by
  unfold qsta
  rw [if_neg (fun q => q h0), if_pos hF]
theorem zsta0 {r : Nat → Int32} {n B i : Nat} (hI : qRI r n B) (hB : B < 2 ^ 31) (hi : i < n) (h : qsta (qg r n) r i = 0) : r (17 + 10 * i + 5) ≠ 0 ∧ zenc (r (17 + 10 * i + 4)) = r (17 + 10 * i + 4) := by
  by_cases h0 : qw (qg r n) i = 0
  · by_cases hF : qF (qg r n) r i = true
    · rw [zsta_2 h0 hF] at h
      have h5 := zF5 hI hB hi hF
      refine ⟨h5.1, zenc_lo (fun q => ?_)⟩
      rw [if_pos q] at h
      rcases h5.2 with ⟨_, h2⟩ | e | e | e
      · exact h2 q
      · rw [e] at h; revert h; decide
      · rw [e] at h; revert h; decide
      · rw [e] at h; revert h; decide
    · rw [zsta_1 h0 hF] at h
      exact absurd h (by decide)
  · unfold qsta at h
    rw [if_pos h0] at h
    exact absurd h h0
theorem zdpt_y {g : qG} {i k : Nat} (h : qall g k i = true) : qdpt g i k ||| ((1 : Int32) <<< (nI k &&& 31)) = qdpt g i (k + 1) := by
  rw [qdpt, if_pos h]
  rfl
theorem zdpt_n {g : qG} {i k : Nat} (h : ¬ qall g k i = true) : qdpt g i k = qdpt g i (k + 1) := by
  rw [qdpt, if_neg h, zor_0]
theorem zcl_by {g : qG} {s : Int32} (h : ∀ d, d < 12 → qt s d = true) : qcl g s := fun _ s _ _ hs _ => h s hs
theorem z4095 : ∀ d, d < 12 → qt 4095 d = true := by decide +kernel
theorem zeag1 {Y : gL} {nb n q : Nat} {τ : gS} {r cn : Nat → Int32} {P : Nat → Nat → Int32} (hn : n ≤ 12) (hr : r 1 = 1) (h : zA Y nb τ (qrt r n 4095, n, P, q, cn)) : zA Y nb τ (qeag r n, n, P, q, cn) := by
  unfold qeag
  rw [if_pos hr, ← qrt_congr (s1 := 4095) (fun d hd => by rw [z4095 d (by omega), qt_neg1 (by omega)])]
  exact h
theorem zeag0 {Y : gL} {nb n q : Nat} {τ : gS} {r cn : Nat → Int32} {P : Nat → Nat → Int32} (hn : n ≤ 12) (hr : ¬ r 1 = 1) (h : zA Y nb τ (qrt r n 0, n, P, q, cn)) : zA Y nb τ (qeag r n, n, P, q, cn) := by
  rw [qrt_0 hn] at h
  unfold qeag
  rw [if_neg hr]
  exact h
theorem qcl_0 {g : qG} (hn : qn g ≤ 12) : qcl g 0 := fun c s hc _ _ hz => by
  rw [qt_0 c (by omega)] at hz
  exact absurd hz Bool.false_ne_true
theorem zlt_s {x a b : Int32} (hab : b.toInt = a.toInt + 1) : ¬ b ≤ x ↔ ¬ a < x := by
  rw [Int32.le_iff_toInt_le, i32lt]
  omega
theorem zcellI {n : Nat} {x : Int32} (hn : n ≤ 12) : (∃ j, j < n ∧ x = nI j) ↔ ¬ x < 0 ∧ x < nI n := by
  constructor
  · rintro ⟨j, hj, rfl⟩
    exact ⟨nI_pos (by omega), nI_lt hj (by omega)⟩
  · rintro ⟨h1, h2⟩
    obtain ⟨j, hj, rfl⟩ := nI_of h1
    exact ⟨j, (nI_ltI hj (by omega)).mp h2, rfl⟩
theorem zfe_H {Y : gL} {nb q : Nat} {σ : gS} {f : Nat → Nat → Int32} {P : Nat → Nat → Int32} {cn : Nat → Int32} (hM : zLC Y nb) (hH : zH Y nb σ P q cn) (he : gEq Y [2, 5, 6, 7, 8, 9, 10] σ (f, σ.2)) : zH Y nb (uI (f, σ.2) (gF Y nb 0) 6 0) P q cn := by
  refine hH.fr hM (((he.zN).mono (fun a ha => ?_)).put (Or.inl (hM.2.2.2.2.2.w0 hM.2.1))) ?_
  · exact Or.inr (List.mem_cons_of_mem _ ha)
  · rw [uI_ne (gK_ne hM.1 hM.2.1 (by decide))]
    exact congrFun (he.at hM.1 (by decide)) 2
theorem zfe_B {Y : gL} {nb q n : Nat} {σ : gS} {f : Nat → Nat → Int32} {P : Nat → Nat → Int32} {cn r : Nat → Int32} (hM : zLC Y nb) (hH : zH Y nb σ P q cn) (hB : zB Y σ (gF Y nb 0) r n) (he : gEq Y [2, 5, 6, 7, 8, 9, 10] σ (f, σ.2)) : zB Y (uI (f, σ.2) (gF Y nb 0) 6 0) (gF Y nb 0) r n := by
  have hc := hH.1.1 _ hM.2.1
  have h2 : zB Y (f, σ.2) (gF Y nb 0) r n := hB.same hM.2.2.2.2.2 hM.2.1 hc rfl (fun a ha => he.2 a (ha.no (by decide) (by decide) (by decide)))
  obtain ⟨b0, b1, b2, b3, b4, b5, b6⟩ := h2
  refine ⟨b0, b1, (uI_off (by decide)).trans b2, (uI_off (by decide)).trans b3, (uI_off (by decide)).trans b4, (uI_off (by decide)).trans b5, fun i hi => ?_⟩
  show zC ((uI (f, σ.2) (gF Y nb 0) 6 0).1 (σ.2.1 (gF Y (gF Y nb 0) 0) i)) r i
  rw [uI_ne (gK_ne (hc i (by omega)).1 hM.2.1 (by decide))]
  exact b6 i hi
theorem zfe_L {Y : gL} {nb : Nat} {σ : gS} {f : Nat → Nat → Int32} {r : Nat → Int32} (h4 : r 4 = 0) : zL Y (uI (f, σ.2) (gF Y nb 0) 6 0) (gF Y nb 0) r := ⟨0, by omega, h4, uI_at, fun j hj => absurd hj (Nat.not_lt_zero j)⟩
theorem zfe_G {Y : gL} {nb : Nat} {σ : gS} {f : Nat → Nat → Int32} {g : qG} (hM : zLC Y nb) (hG : zG Y (f, σ.2) (gF Y nb 4) g) : zG Y (uI (f, σ.2) (gF Y nb 0) 6 0) (gF Y nb 4) g := hG.same hM.2.2.2.2.1 (fun a ha => uI_ne (fun e => by
  rw [e, hM.2.1] at ha
  revert ha
  decide))
