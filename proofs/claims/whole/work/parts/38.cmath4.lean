/-! ===== the public methods' pieces ===== -/
theorem zL.cnt {Y : gL} {σ : gS} {t : Nat} {r : Nat → Int32} (h : zL Y σ t r) : σ.1 t 6 = r 4 := by
  obtain ⟨k, _, h2, h3, _⟩ := h
  rw [h2, h3]
theorem zdefB {Y : gL} {σ : gS} {t n i : Nat} {r : Nat → Int32} {v op x y : Int32} (h : zB Y σ t r n) (ht : gK Y t = 11) (hc : zCs Y σ.2.1 t) (hi : i < n) : zB Y (uI (uI (uI (uI (uI σ (σ.2.1 (gF Y t 0) i) 0 v) (σ.2.1 (gF Y t 0) i) 1 op) (σ.2.1 (gF Y t 0) i) 2 x) (σ.2.1 (gF Y t 0) i) 3 y) (σ.2.1 (gF Y t 0) i) 5 0) t (qdef (qsv r) i v op x y) n := by
  have hn := h.2.1
  have n1 : t ≠ σ.2.1 (gF Y t 0) i := (gK_ne (hc i (by omega)).1 ht (by decide)).symm
  refine h.def hi rfl ?_ (fun d hd hne => ?_) ?_ ?_ ?_ ?_ ?_ ?_
  · rw [uI_ne n1, uI_ne n1, uI_ne n1, uI_ne n1, uI_ne n1]
  · have n2 : σ.2.1 (gF Y t 0) d ≠ σ.2.1 (gF Y t 0) i := fun z => hne ((hc d (by omega)).2.2 i (by omega) z)
    rw [uI_ne n2, uI_ne n2, uI_ne n2, uI_ne n2, uI_ne n2]
  all_goals simp [uI]
theorem zdefH {Y : gL} {nb q i : Nat} {σ : gS} {P : Nat → Nat → Int32} {cn : Nat → Int32} {v op x y : Int32} (hM : zLC Y nb) (hH : zH Y nb σ P q cn) (hi : i < 12) : zH Y nb (uI (uI (uI (uI (uI σ (σ.2.1 (gF Y (gF Y nb 0) 0) i) 0 v) (σ.2.1 (gF Y (gF Y nb 0) 0) i) 1 op) (σ.2.1 (gF Y (gF Y nb 0) 0) i) 2 x) (σ.2.1 (gF Y (gF Y nb 0) 0) i) 3 y) (σ.2.1 (gF Y (gF Y nb 0) 0) i) 5 0) P q cn := by
  have hw : zX Y nb (σ.2.1 (gF Y (gF Y nb 0) 0) i) := Or.inl ((hH.1.1 _ hM.2.1).w hi)
  have n1 : nb ≠ σ.2.1 (gF Y (gF Y nb 0) 0) i := gK_ne hM.1 (hH.1.1 _ hM.2.1 i hi).1 (by decide)
  refine hH.fr hM (((((zN.rf.put hw).put hw).put hw).put hw).put hw) ?_
  rw [uI_ne n1, uI_ne n1, uI_ne n1, uI_ne n1, uI_ne n1]
theorem zsetB {Y : gL} {σ : gS} {t n : Nat} {r : Nat → Int32} {x : Int32} (h : zB Y σ t r n) (ht : gK Y t = 11) (hc : zCs Y σ.2.1 t) : zB Y (uI σ t 2 x) t (qup (qsv r) 1 x) n := by
  obtain ⟨b0, b1, b2, b3, b4, b5, b6⟩ := h
  have lo : ∀ j, j ≠ 1 → j ≠ 4 → qup (qsv r) 1 x j = r j := fun j h1 h4 => (qup_off h1).trans (qup_off h4)
  refine ⟨by rw [lo 0 (by decide) (by decide)]; exact b0, b1, (uI_off (by decide)).trans b2, uI_at.trans qup_at.symm, by rw [lo 3 (by decide) (by decide)]; exact (uI_off (by decide)).trans b4, by rw [lo 2 (by decide) (by decide)]; exact (uI_off (by decide)).trans b5, fun i hi => ?_⟩
  show zC ((uI σ t 2 x).1 (σ.2.1 (gF Y t 0) i)) _ i
  rw [uI_ne (gK_ne (hc i (by omega)).1 ht (by decide))]
  exact (b6 i hi).by (fun _ _ => rfl) (fun k hk => lo _ (by omega) (by omega))
theorem zputH {Y : gL} {nb q k : Nat} {σ : gS} {P : Nat → Nat → Int32} {cn : Nat → Int32} {v : Int32} (hM : zLC Y nb) (hH : zH Y nb σ P q cn) : zH Y nb (uI σ (gF Y nb 0) k v) P q cn :=
  hH.fr hM (zN.rf.put (Or.inl (hM.2.2.2.2.2.w0 hM.2.1))) (congrFun (uI_ne (gK_ne hM.1 hM.2.1 (by decide))) 2)
theorem zslB {Y : gL} {σ : gS} {t n : Nat} {r : Nat → Int32} {v : Int32} (h : zB Y σ t r n) (ht : gK Y t = 11) (hc : zCs Y σ.2.1 t) : zB Y (uI σ t 6 v) t (qsv r) n := by
  obtain ⟨b0, b1, b2, b3, b4, b5, b6⟩ := h.sv
  refine ⟨b0, b1, (uI_off (by decide)).trans b2, (uI_off (by decide)).trans b3, (uI_off (by decide)).trans b4, (uI_off (by decide)).trans b5, fun i hi => ?_⟩
  show zC ((uI σ t 6 v).1 (σ.2.1 (gF Y t 0) i)) _ i
  rw [uI_ne (gK_ne (hc i (by omega)).1 ht (by decide))]
  exact b6 i hi
theorem zslL {Y : gL} {σ : gS} {t : Nat} {r : Nat → Int32} : zL Y (uI σ t 6 0) t (qsv r) := ⟨0, by omega, qsv_4, uI_at, fun j hj => absurd hj (Nat.not_lt_zero j)⟩
theorem zslG {Y : gL} {nb : Nat} {σ τ : gS} {g : qG} {v : Int32} (hM : zLC Y nb) (hG : zG Y σ (gF Y nb 4) g) (hs : ∀ a, gK Y a ∈ [2, 5, 6, 7, 8, 9, 10] → τ.1 a = σ.1 a) : zG Y (uI τ (gF Y nb 0) 6 v) (gF Y nb 4) g := hG.same hM.2.2.2.2.1 (fun a ha => (uI_ne (fun e => by
  rw [e, hM.2.1] at ha
  revert ha
  decide)).trans (hs a ha))
theorem zall {Y : gL} {nb n q : Nat} {τ : gS} {r cn : Nat → Int32} {P : Nat → Nat → Int32} (hn : n ≤ 12) (h : zA Y nb τ (qrt r n 4095, n, P, q, cn)) : zA Y nb τ (qrt r n (-1), n, P, q, cn) := by
  rw [← qrt_congr (s1 := 4095) (fun d hd => by rw [z4095 d (by omega), qt_neg1 (by omega)])]
  exact h
theorem zabs : ∀ i, i < 12 → ∀ j, j < 12 → i ≠ j → (if 0 ≤ nI j - nI i then nI j - nI i else 0 - (nI j - nI i)) + 1 = nI (if i = j then 0 else if i < j then j - i + 1 else i - j + 1) := by decide +kernel
theorem zqpos : ∀ q, q ≤ 4 → (0 < nI q ↔ q ≠ 0) := by decide +kernel
/-! undo -/
theorem zB.by {Y : gL} {σ : gS} {t n : Nat} {r r' : Nat → Int32} (h : zB Y σ t r n) (hr : ∀ j, j < 137 → r' j = r j) : zB Y σ t r' n := by
  obtain ⟨b0, b1, b2, b3, b4, b5, b6⟩ := h
  refine ⟨by rw [hr 0 (by omega)]; exact b0, b1, b2, by rw [hr 1 (by omega)]; exact b3, by rw [hr 3 (by omega)]; exact b4, by rw [hr 2 (by omega)]; exact b5, fun i hi => (b6 i hi).by (fun _ _ => rfl) (fun k hk => hr _ (by omega))⟩
theorem zL.by {Y : gL} {σ : gS} {t : Nat} {r r' : Nat → Int32} (h : zL Y σ t r) (hr : ∀ j, j < 137 → r' j = r j) : zL Y σ t r' := by
  obtain ⟨k, h1, h2, h3, h4⟩ := h
  exact ⟨k, h1, by rw [hr 4 (by omega)]; exact h2, h3, fun j hj => by rw [hr (5 + j) (by omega)]; exact h4 j hj⟩
theorem zunH {Y : gL} {nb q : Nat} {σ : gS} {P : Nat → Nat → Int32} {cn : Nat → Int32} (hM : zLC Y nb) (hH : zH Y nb σ P q cn) : zH Y nb (uI σ nb 2 (nI (q - 1))) P (q - 1) cn := by
  obtain ⟨hR, ⟨p1, p2, p3⟩, h4⟩ := hH
  have m6 := hM.2.2.2.2.2
  refine ⟨hR, ⟨by omega, uI_at, fun j hj => ?_⟩, ?_⟩
  · obtain ⟨n, b1, b2⟩ := p3 j (by omega)
    exact ⟨n, b1.put m6 (hR.2 j (by omega)).1 (hR.1 _ (hR.2 j (by omega)).1) (znb hM), b2.put m6 (hR.2 j (by omega)).1 (znb hM)⟩
  · rw [uI_ne (gK_ne hM.2.2.2.1 hM.1 (by decide))]
    exact h4
/-- what stands behind the copying back and the deriving -/
theorem zun {Y : gL} {nb q n2 : Nat} {σ : gS} {f f2 : Nat → Nat → Int32} {P : Nat → Nat → Int32} {cn : Nat → Int32} {r2 : Nat → Int32} (hM : zLC Y nb) (hH : zH Y nb σ P q cn) (hq0 : q ≠ 0) (hB : zB Y σ (σ.2.1 (gF Y nb 1) (q - 1)) (P (q - 1)) n2) (hL : zL Y σ (σ.2.1 (gF Y nb 1) (q - 1)) (P (q - 1))) (hr2 : ∀ j, j < 137 → r2 j = P (q - 1) j) (hc : zCp Y (uI σ nb 2 (nI (q - 1))) (f, σ.2) (gF Y nb 0) (σ.2.1 (gF Y nb 1) (q - 1))) : zH Y nb (f, σ.2) P (q - 1) cn ∧ zB Y (f, σ.2) (gF Y nb 0) r2 n2 ∧ zL Y (f, σ.2) (gF Y nb 0) r2 := by
  have hR := hH.1
  have hq4 := hH.2.1.1
  have m6 := hM.2.2.2.2.2
  have hs := hR.2 (q - 1) (by omega)
  have h1 := zunH hM hH
  refine ⟨h1.fr hM (hc.1.mono (fun a ha => Or.inl ha)) (congrFun (hc.1.2 nb (znb hM)) 2), (hc.B (hB.put m6 hs.1 (hR.1 _ hs.1) (znb hM))).by hr2, (hc.L (hL.put m6 hs.1 (znb hM))).by hr2⟩
theorem zun2 {Y : gL} {nb q n2 : Nat} {σ : gS} {f f2 : Nat → Nat → Int32} {P : Nat → Nat → Int32} {cn : Nat → Int32} {r2 : Nat → Int32} (hM : zLC Y nb) (h : zH Y nb (f, σ.2) P q cn ∧ zB Y (f, σ.2) (gF Y nb 0) r2 n2 ∧ zL Y (f, σ.2) (gF Y nb 0) r2) (he : gEq Y [2, 5, 6, 7, 8, 9, 10] (f, σ.2) (f2, σ.2)) : zH Y nb (f2, σ.2) P q cn ∧ zB Y (f2, σ.2) (gF Y nb 0) r2 n2 ∧ zL Y (f2, σ.2) (gF Y nb 0) r2 := by
  obtain ⟨hH, hB, hL⟩ := h
  have hw : ∀ a, zW Y (gF Y nb 0) a → f2 a = f a := fun a ha => he.2 a (ha.no (by decide) (by decide) (by decide))
  refine ⟨hH.fr hM ((he.zN).mono (fun a ha => Or.inr (List.mem_cons_of_mem _ ha))) (congrFun (he.at hM.1 (by decide)) 2), hB.same hM.2.2.2.2.2 hM.2.1 (hH.1.1 _ hM.2.1) rfl hw, hL.same hM.2.2.2.2.2 hM.2.1 hw⟩
/-! how many are fresh -/
theorem qcnt_cg {p q : Nat → Bool} : ∀ n, (∀ k, k < n → p k = q k) → qcnt p n = qcnt q n
  | 0, _ => rfl
  | n + 1, h => by
    rw [qcnt, qcnt, qcnt_cg n (fun k hk => h k (by omega)), h n (by omega)]
theorem qcnt_drop {p : Nat → Bool} {c : Nat} : ∀ n, c < n → qcnt p n = qcnt (fun d => p d && decide (d ≠ c)) n + (if p c = true then 1 else 0)
  | 0, h => absurd h (Nat.not_lt_zero c)
  | n + 1, h => by
    rw [qcnt, qcnt]
    by_cases e : c = n
    · subst e
      rw [qcnt_cg (p := fun d => p d && decide (d ≠ c)) (q := p) c (fun k hk => by simp [show k ≠ c by omega])]
      simp
    · rw [qcnt_drop (c := c) n (by omega)]
      have : (p n && decide (n ≠ c)) = p n := by simp [show n ≠ c by omega]
      simp only [this]
      omega
theorem qcnt_im {N : Nat} : ∀ (m : Nat) (p : Nat → Bool) (f : Nat → Nat), (∀ j, j < m → f j < N) → (∀ i j, i < j → j < m → f i ≠ f j) → (∀ d, d < N → p d = true → ∃ j, j < m ∧ f j = d) → qcnt (fun k => p (f k)) m = qcnt p N
  | 0, p, f, _, _, h => by
    rw [qcnt_cg (p := p) (q := fun _ => false) N (fun k hk => by
      cases e : p k
      · rfl
      · obtain ⟨j, hj, -⟩ := h k hk e
        exact absurd hj (Nat.not_lt_zero j))]
    have z : ∀ n, qcnt (fun _ => false) n = 0 := fun n => by
      induction n with
      | zero => rfl
      | succ n ih => rw [qcnt, ih]; rfl
    rw [z]
    rfl
  | m + 1, p, f, hf, hi, h => by
    rw [qcnt, qcnt_drop N (hf m (by omega)), ← qcnt_im m (fun d => p d && decide (d ≠ f m)) f (fun j hj => hf j (by omega)) (fun i j hij hj => hi i j hij (by omega)) (fun d hd hp => by
      simp only [Bool.and_eq_true, decide_eq_true_eq] at hp
      obtain ⟨j, hj, he⟩ := h d hd hp.1
      exact ⟨j, by rcases Nat.lt_or_ge j m with q | q; exact q; exact absurd (show d = f m by rw [← he, show j = m by omega]) hp.2, he⟩)]
    rw [qcnt_cg (p := fun k => p (f k)) (q := fun k => p (f k) && decide (f k ≠ f m)) m (fun k hk => by simp [hi k m hk (by omega)])]
theorem qcnt_not {p : Nat → Bool} : ∀ n, qcnt (fun k => !(p k)) n + qcnt p n = n
  | 0 => rfl
  | n + 1 => by
    rw [qcnt, qcnt]
    have := qcnt_not (p := p) n
    cases p n <;> simp <;> omega
theorem zstale {g : qG} (hn : qn g ≤ 12) {r : Nat → Int32} : qcnt (fun k => !(qF g r (qo g k))) (qm g) = qm g - qcnt (qF g r) 12 := by
  have h1 := qcnt_im (N := 12) (qm g) (qF g r) (qo g) (fun j hj => by have := qm_lt hj; omega) (fun i j hij hj => qo_ne hn hij (qm_lt hj)) (fun d _ hp => qfr_in _ hp)
  have h2 := qcnt_not (p := fun k => qF g r (qo g k)) (qm g)
  rw [h1] at h2
  omega
/-- the counting of bits -/
def zus (x k : Int32) : Int32 := (x.toUInt32 >>> (k.toUInt32 &&& Int32.toUInt32 31)).toInt32
def zb1 (x : Int32) : Int32 := x - (zus x 1 &&& 1431655765)
def zb2 (x : Int32) : Int32 := (x &&& 858993459) + (zus x 2 &&& 858993459)
def zb3 (x : Int32) : Int32 := (x + zus x 4) &&& 252645135
def zb4 (x : Int32) : Int32 := x + zus x 8
def zb5 (x : Int32) : Int32 := x + zus x 16
def zbc (x : Int32) : Int32 := zb5 (zb4 (zb3 (zb2 (zb1 x)))) &&& 63
theorem zbc_cnt2 : ∀ a, a < 64 → ∀ b, b < 64 → zbc (nI (64 * a + b)) = nI (qcnt (fun d => qt (nI (64 * a + b)) d) 12) := by decide +kernel
theorem zbc_cnt (k : Nat) (hk : k < 4096) : zbc (nI k) = nI (qcnt (fun d => qt (nI k) d) 12) := by
  have h := zbc_cnt2 (k / 64) (by omega) (k % 64) (by omega)
  rw [Nat.div_add_mod] at h
  exact h
theorem zmk {x : Int32} {fr : Nat → Bool} (h : zM x fr) (hf : ∀ d, fr d = true → d < 12) : ∃ k, k < 4096 ∧ x = nI k := by
  refine ⟨x.toBitVec.toNat, ?_, ?_⟩
  · apply Nat.lt_pow_two_of_testBit (n := 12)
    intro i hi
    rcases Nat.lt_or_ge i 32 with h32 | h32
    · have h1 := h i h32
      rw [qt_bt h32] at h1
      have h2 : fr i = false := by
        cases e : fr i
        · rfl
        · exact absurd (hf i e) (by omega)
      rw [h2] at h1
      exact h1
    · exact BitVec.getLsbD_of_ge _ _ h32
  · apply Int32.toBitVec_inj.mp
    apply BitVec.eq_of_toNat_eq
    show x.toBitVec.toNat = (Int32.ofNat x.toBitVec.toNat).toBitVec.toNat
    rw [Int32.toBitVec_ofNat']
    simp
theorem zbc_F {x : Int32} {fr : Nat → Bool} (h : zM x fr) (hf : ∀ d, fr d = true → d < 12) : zbc x = nI (qcnt fr 12) := by
  obtain ⟨k, hk, rfl⟩ := zmk h hf
  rw [zbc_cnt k hk, qcnt_cg 12 (fun d hd => h d (by omega))]
theorem qcnt_le {p : Nat → Bool} : ∀ n, qcnt p n ≤ n
  | 0 => Nat.le_refl 0
  | n + 1 => by
    rw [qcnt]
    have := qcnt_le (p := p) n
    split <;> omega
theorem zst_le {g : qG} (hn : qn g ≤ 12) {r : Nat → Int32} : qcnt (qF g r) 12 ≤ qm g := by
  have h1 := qcnt_im (N := 12) (qm g) (qF g r) (qo g) (fun j hj => by have := qm_lt hj; omega) (fun i j hij hj => qo_ne hn hij (qm_lt hj)) (fun d _ hp => qfr_in _ hp)
  rw [← h1]
  exact qcnt_le _
theorem zF12 {g : qG} (hn : qn g ≤ 12) {r : Nat → Int32} : ∀ d, qF g r d = true → d < 12 := fun d h => by
  obtain ⟨j, hj, he⟩ := qfr_in _ h
  have := qm_lt hj
  omega
