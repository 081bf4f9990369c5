-- pasted from kit/laws/BITS.to-paste (the family bt)
def bt (x : Int32) (i : Nat) : Bool := x.toBitVec.getLsbD i
theorem b_ext {x y : Int32} (h : ∀ i, i < 32 → bt x i = bt y i) : x = y := Int32.toBitVec_inj.mp (BitVec.eq_of_getLsbD_eq (fun i hi => h i hi))
theorem b_or (x y : Int32) (i : Nat) : bt (x ||| y) i = (bt x i || bt y i) := by unfold bt; rw [Int32.toBitVec_or, BitVec.getLsbD_or]
theorem b_and (x y : Int32) (i : Nat) : bt (x &&& y) i = (bt x i && bt y i) := by unfold bt; rw [Int32.toBitVec_and, BitVec.getLsbD_and]
theorem b_xor (x y : Int32) (i : Nat) : bt (x ^^^ y) i = (bt x i ^^ bt y i) := by unfold bt; rw [Int32.toBitVec_xor, BitVec.getLsbD_xor]
theorem b_big {x : Int32} {i : Nat} (h : 32 ≤ i) : bt x i = false := BitVec.getLsbD_of_ge _ _ h
theorem b_255 (i : Nat) : bt 255 i = decide (i < 8) := by
  rcases Nat.lt_or_ge i 32 with h | h
  · exact (by decide +kernel : ∀ i, i < 32 → bt 255 i = decide (i < 8)) i h
  · rw [b_big h, decide_eq_false (by omega)]
theorem b_65535 (i : Nat) : bt 65535 i = decide (i < 16) := by
  rcases Nat.lt_or_ge i 32 with h | h
  · exact (by decide +kernel : ∀ i, i < 32 → bt 65535 i = decide (i < 16)) i h
  · rw [b_big h, decide_eq_false (by omega)]
theorem b_m1 : ∀ i, i < 32 → bt (-1) i = true := by decide +kernel
theorem b_0 (i : Nat) : bt 0 i = false := BitVec.getLsbD_zero
theorem s_l : ∀ n, n < 32 → ((nI n &&& 31).toBitVec.smod 32).toNat = n := by decide +kernel
theorem s_u : ∀ n, n < 32 → (((nI n).toUInt32 &&& Int32.toUInt32 31).toBitVec % 32).toNat = n := by decide +kernel
theorem b_shl (n : Nat) (hn : n < 32) (x : Int32) {i : Nat} (hi : i < 32) : bt (x <<< (nI n &&& 31)) i = (decide (n ≤ i) && bt x (i - n)) := by
  unfold bt
  rw [Int32.toBitVec_shiftLeft]
  show (x.toBitVec <<< ((nI n &&& 31).toBitVec.smod 32).toNat).getLsbD i = _
  rw [s_l n hn, BitVec.getLsbD_shiftLeft]
  rcases Nat.lt_or_ge i n with h | h
  · simp [h, Nat.not_le.mpr h]
  · simp [hi, h, Nat.not_lt.mpr h]
theorem b_ushr (n : Nat) (hn : n < 32) (x : Int32) (i : Nat) : bt ((x.toUInt32 >>> ((nI n).toUInt32 &&& Int32.toUInt32 31)).toInt32) i = bt x (n + i) := by
  show (x.toUInt32 >>> ((nI n).toUInt32 &&& Int32.toUInt32 31)).toBitVec.getLsbD i = x.toUInt32.toBitVec.getLsbD (n + i)
  rw [UInt32.toBitVec_shiftRight]
  show (x.toUInt32.toBitVec >>> (((nI n).toUInt32 &&& Int32.toUInt32 31).toBitVec % 32).toNat).getLsbD i = _
  rw [s_u n hn, BitVec.getLsbD_ushiftRight]
theorem b_sshr (n : Nat) (hn : n < 32) (x : Int32) {i : Nat} (hi : i < 32) : bt (x >>> (nI n &&& 31)) i = if n + i < 32 then bt x (n + i) else bt x 31 := by
  unfold bt
  rw [Int32.toBitVec_shiftRight]
  show (x.toBitVec.sshiftRight ((nI n &&& 31).toBitVec.smod 32).toNat).getLsbD i = _
  rw [s_l n hn, BitVec.getLsbD_sshiftRight, BitVec.msb_eq_getLsbD_last]
  simp [hi]
-- end of what is pasted
theorem b_one : ∀ i, i < 32 → bt 1 i = decide (i = 0) := by decide +kernel
theorem qb_bt {c : Nat} (hc : c < 32) {i : Nat} (hi : i < 32) : bt (qb c) i = decide (i = c) := by
  unfold qb
  rw [b_shl c hc 1 hi]
  rcases Nat.lt_or_ge i c with h | h
  · simp [Nat.not_le.mpr h, Nat.ne_of_lt h]
  · rw [b_one (i - c) (by omega)]
    simp only [h, decide_true, Bool.true_and]
    congr 1
    exact propext ⟨fun e => by omega, fun e => by omega⟩
theorem qt_bt {x : Int32} {c : Nat} (hc : c < 32) : qt x c = bt x c := by
  unfold qt
  have h : ((x >>> (nI c &&& 31)) &&& 1 = 1) ↔ bt x c = true := by
    constructor
    · intro h
      have h1 : bt ((x >>> (nI c &&& 31)) &&& 1) 0 = true := by rw [h]; rfl
      rw [b_and, b_sshr c hc x (by omega)] at h1
      simpa [hc, b_one] using h1
    · intro h
      apply b_ext
      intro i hi
      rw [b_and, b_one i hi, b_sshr c hc x hi]
      by_cases h0 : i = 0
      · subst h0
        simp [hc, h]
      · simp [h0]
  rw [← decide_eq_true_iff (p := bt x c = true)] at h
  cases hb : bt x c <;> simp_all
theorem qt_iff {x : Int32} {c : Nat} : (x >>> (nI c &&& 31)) &&& 1 = 1 ↔ qt x c = true := by simp [qt]
theorem qt_01 (x : Int32) : x &&& 1 = 0 ∨ x &&& 1 = 1 := by
  by_cases h : bt x 0 = true
  · right
    apply b_ext
    intro i hi
    rw [b_and, b_one i hi]
    by_cases h0 : i = 0
    · subst h0; simp [h]
    · simp [h0]
  · left
    apply b_ext
    intro i hi
    rw [b_and, b_one i hi, b_0]
    by_cases h0 : i = 0
    · subst h0; simpa using h
    · simp [h0]
theorem qt_iff0 {x : Int32} {c : Nat} : (x >>> (nI c &&& 31)) &&& 1 = 0 ↔ qt x c = false := by
  rcases qt_01 (x >>> (nI c &&& 31)) with h | h <;> simp [qt, h]
theorem qt_or (x y : Int32) {c : Nat} (hc : c < 32) : qt (x ||| y) c = (qt x c || qt y c) := by
  rw [qt_bt hc, qt_bt hc, qt_bt hc, b_or]
theorem qt_and (x y : Int32) {c : Nat} (hc : c < 32) : qt (x &&& y) c = (qt x c && qt y c) := by
  rw [qt_bt hc, qt_bt hc, qt_bt hc, b_and]
theorem qt_qb {d c : Nat} (hd : d < 32) (hc : c < 32) : qt (qb d) c = decide (c = d) := by
  rw [qt_bt hc, qb_bt hd hc]
theorem qt_0 (c : Nat) (hc : c < 32) : qt 0 c = false := by rw [qt_bt hc, b_0]
theorem qt_ext {x y : Int32} (h : ∀ c, c < 32 → qt x c = qt y c) : x = y := b_ext (fun i hi => by rw [← qt_bt hi, ← qt_bt hi]; exact h i hi)
theorem qt_m1 {x : Int32} {c : Nat} (hc : c < 32) : qt (x ^^^ (-1)) c = !(qt x c) := by
  rw [qt_bt hc, qt_bt hc, b_xor, b_m1 c hc]
  simp
theorem qt_diff {x y : Int32} : x &&& (y ^^^ (-1)) = 0 ↔ ∀ c, c < 32 → qt x c = true → qt y c = true := by
  constructor
  · intro h c hc hx
    have h1 : qt (x &&& (y ^^^ (-1))) c = false := by rw [h]; exact qt_0 c hc
    rw [qt_and _ _ hc, qt_m1 hc, hx] at h1
    simpa using h1
  · intro h
    apply qt_ext
    intro c hc
    rw [qt_and _ _ hc, qt_m1 hc, qt_0 c hc]
    cases hx : qt x c
    · rfl
    · rw [h c hc hx]; rfl
theorem qt_con {x : Int32} {c : Nat} (hc : c < 32) : x &&& qb c = 0 ↔ qt x c = false := by
  constructor
  · intro h
    have h1 : qt (x &&& qb c) c = false := by rw [h]; exact qt_0 c hc
    rw [qt_and _ _ hc, qt_qb hc hc] at h1
    simpa using h1
  · intro h
    apply qt_ext
    intro d hd
    rw [qt_and _ _ hd, qt_qb hc hd, qt_0 d hd]
    by_cases e : d = c
    · subst e; simp [h]
    · simp [e]
theorem qb_inj {c d : Nat} (hc : c < 32) (hd : d < 32) (h : qb c = qb d) : c = d := by
  have h1 : qt (qb c) d = qt (qb d) d := by rw [h]
  rw [qt_qb hc hd, qt_qb hd hd] at h1
  simp at h1
  exact h1.symm
theorem qb_ne0 {c : Nat} (hc : c < 32) : qb c ≠ 0 := by
  intro h
  have h1 : qt (qb c) c = false := by rw [h]; exact qt_0 c hc
  rw [qt_qb hc hc] at h1
  simp at h1
theorem qt_neg1 {c : Nat} (hc : c < 32) : qt (-1) c = true := by rw [qt_bt hc, b_m1 c hc]
/-! the first of some -/
theorem qfst_le (p : Nat → Bool) : ∀ n, qfst p n ≤ n
  | 0 => Nat.le_refl 0
  | n + 1 => by
    have ih := qfst_le p n
    unfold qfst
    split
    · omega
    · split <;> omega
theorem qfst_no (p : Nat → Bool) : ∀ n k, k < qfst p n → p k = false
  | 0, k, h => absurd h (Nat.not_lt_zero k)
  | n + 1, k, h => by
    have ih := qfst_no p n
    have hl := qfst_le p n
    unfold qfst at h
    split at h
    · exact ih k h
    · split at h
      · exact ih k (by omega)
      · rcases Nat.lt_or_ge k n with q | q
        · exact ih k (by omega)
        · have : k = n := by omega
          subst this
          simpa using ‹¬ p k = true›
theorem qfst_yes (p : Nat → Bool) : ∀ n, qfst p n < n → p (qfst p n) = true
  | 0, h => absurd h (Nat.not_lt_zero _)
  | n + 1, h => by
    have ih := qfst_yes p n
    unfold qfst at h ⊢
    split
    · exact ih (by assumption)
    · split
      · assumption
      · rename_i h1 h2
        rw [if_neg h1, if_neg h2] at h
        omega
theorem qfst_at {p : Nat → Bool} {n k : Nat} (hk : k < n) (hno : ∀ j, j < k → p j = false) (hy : p k = true) : qfst p n = k := by
  have h1 := qfst_le p n
  rcases Nat.lt_trichotomy (qfst p n) k with h | h | h
  · have h2 := qfst_yes p n (by omega)
    rw [hno _ h] at h2
    cases h2
  · exact h
  · have h2 := qfst_no p n k h
    rw [hy] at h2
    cases h2
theorem qfst_none {p : Nat → Bool} {n : Nat} (hno : ∀ j, j < n → p j = false) : qfst p n = n := by
  have h1 := qfst_le p n
  rcases Nat.lt_or_ge (qfst p n) n with h | h
  · have h2 := qfst_yes p n h
    rw [hno _ h] at h2
    cases h2
  · omega
theorem qfst_lt {p : Nat → Bool} {n : Nat} : qfst p n < n ↔ ∃ d, d < n ∧ p d = true := by
  constructor
  · intro h
    exact ⟨_, h, qfst_yes p n h⟩
  · rintro ⟨d, hd, hp⟩
    rcases Nat.lt_or_ge (qfst p n) n with h | h
    · exact h
    · have h2 := qfst_no p n d (by omega)
      rw [hp] at h2
      cases h2
theorem qfst_congr {p q : Nat → Bool} {n : Nat} (h : ∀ k, k < n → p k = q k) : qfst p n = qfst q n := by
  have h1 := qfst_le q n
  rcases Nat.lt_or_ge (qfst q n) n with g | g
  · exact qfst_at g (fun j hj => by rw [h j (by omega)]; exact qfst_no q n j hj) (by rw [h _ g]; exact qfst_yes q n g)
  · rw [qfst_none (p := p) (fun j hj => by rw [h j hj]; exact qfst_no q n j (by omega))]
    omega
theorem qonlw_all (s : Int32) : ∀ (m k : Nat), 12 - k ≤ m → qonlw s k ≤ 12 ∧ (qonlw s k < 12 → s = qb (qonlw s k)) ∧ (qonlw s k = 12 → ∀ c, k ≤ c → c < 12 → s ≠ qb c)
  | 0, k, h => by
    rw [qonlw, if_neg (by omega)]
    exact ⟨by omega, fun q => absurd q (by omega), fun _ c h1 h2 => absurd h2 (by omega)⟩
  | m + 1, k, h => by
    rw [qonlw]
    by_cases hk : k < 12
    · rw [if_pos hk]
      by_cases hs : s = qb k
      · rw [if_pos hs]
        exact ⟨by omega, fun _ => hs, fun q => absurd q (by omega)⟩
      · rw [if_neg hs]
        obtain ⟨h1, h2, h3⟩ := qonlw_all s m (k + 1) (by omega)
        refine ⟨h1, h2, fun q c hc1 hc2 => ?_⟩
        by_cases e : c = k
        · rw [e]; exact hs
        · exact h3 q c (by omega) hc2
    · rw [if_neg hk]
      exact ⟨by omega, fun q => absurd q (by omega), fun _ c h1 h2 => absurd h2 (by omega)⟩
theorem qonl_le (s : Int32) : qonl s ≤ 12 := (qonlw_all s 12 0 (by omega)).1
theorem qonl_yes {s : Int32} (h : qonl s < 12) : s = qb (qonl s) := (qonlw_all s 12 0 (by omega)).2.1 h
theorem qonl_no {s : Int32} (h : qonl s = 12) {c : Nat} (hc : c < 12) : s ≠ qb c := (qonlw_all s 12 0 (by omega)).2.2 h c (Nat.zero_le c) hc
theorem qonl_at {s : Int32} {c : Nat} (hc : c < 12) (h : s = qb c) : qonl s = c := by
  have h1 := qonl_le s
  rcases Nat.lt_or_ge (qonl s) 12 with h2 | h2
  · exact qb_inj (by omega) (by omega) ((qonl_yes h2).symm.trans h)
  · exact absurd h (qonl_no (by omega) hc)
theorem qonl_none {s : Int32} (h : ∀ c, c < 12 → ¬ s = qb c) : qonl s = 12 := by
  have h1 := qonl_le s
  rcases Nat.lt_or_ge (qonl s) 12 with h2 | h2
  · exact absurd (qonl_yes h2) (h _ h2)
  · omega
theorem qsrc_le (g : qG) (x : Int32) : qsrc g x ≤ 12 := by
  unfold qsrc
  split
  · omega
  · exact qonl_le _
/-! numbers -/
theorem qicell {n : Nat} (h : n ≤ 12) {x : Int32} : (¬ x < 0 ∧ ¬ nI n - 1 < x) ↔ ∃ j, j < n ∧ x = nI j := by
  constructor
  · rintro ⟨h1, h2⟩
    obtain ⟨j, hj, rfl⟩ := nI_of h1
    refine ⟨j, ?_, rfl⟩
    rw [Int32.lt_iff_toInt_lt, nI_toInt hj] at h2
    rcases Nat.eq_zero_or_pos n with h0 | h0
    · subst h0
      exfalso
      apply h2
      have : (nI 0 - 1).toInt = -1 := by decide
      omega
    · have e : nI n - 1 = nI (n - 1) := pk_sub (b := 1) h0
      rw [e, nI_toInt (by omega)] at h2
      omega
  · rintro ⟨j, hj, rfl⟩
    refine ⟨nI_pos (by omega), ?_⟩
    have e : nI n - 1 = nI (n - 1) := pk_sub (b := 1) (by omega)
    rw [e, Int32.lt_iff_toInt_lt, nI_toInt (by omega), nI_toInt (by omega)]
    omega
theorem qle99 {x : Int32} : x ≤ 99 ↔ x < 100 := by
  rw [Int32.le_iff_toInt_le, Int32.lt_iff_toInt_lt]
  have h1 : (99 : Int32).toInt = 99 := by decide
  have h2 : (100 : Int32).toInt = 100 := by decide
  omega
theorem qge100 {x : Int32} : 100 ≤ x ↔ ¬ x < 100 := by
  rw [Int32.le_iff_toInt_le, Int32.lt_iff_toInt_lt]
  omega
theorem nI_neg {k : Nat} (h : k < 2 ^ 31) {z : Int32} (hz : z < 0) : ¬ nI k = z := by
  intro e
  rw [← e] at hz
  exact nI_pos h hz
theorem nI_bmod {k : Nat} (hk : k < 2 ^ 31) : nI k = 0 ↔ k = 0 := by
  rw [← nI_0, nI_eq hk (by omega)]
/-! the frame of a store: what lies at cells of other roles is as before -/
def gEq (Y : gL) (rs : List Nat) (σ τ : gS) : Prop := τ.2 = σ.2 ∧ ∀ a, gK Y a ∉ rs → τ.1 a = σ.1 a
theorem gEq.rf {Y : gL} {rs : List Nat} {σ : gS} : gEq Y rs σ σ := ⟨rfl, fun _ _ => rfl⟩
theorem gEq.tr {Y : gL} {rs : List Nat} {σ τ υ : gS} (h1 : gEq Y rs σ τ) (h2 : gEq Y rs τ υ) : gEq Y rs σ υ := ⟨h2.1.trans h1.1, fun a ha => (h2.2 a ha).trans (h1.2 a ha)⟩
theorem gEq.mono {Y : gL} {rs rs' : List Nat} {σ τ : gS} (h : gEq Y rs σ τ) (hs : ∀ k ∈ rs, k ∈ rs') : gEq Y rs' σ τ := ⟨h.1, fun a ha => h.2 a (fun q => ha (hs _ q))⟩
theorem gEq.put {Y : gL} {rs : List Nat} {σ τ : gS} (h : gEq Y rs σ τ) {a k : Nat} {v : Int32} {i : Nat} (hi : gK Y a = i) (ha : i ∈ rs) : gEq Y rs σ (uI τ a k v) := ⟨h.1, fun b hb => by
  rw [uI_ne (fun e => hb (by rw [e, hi]; exact ha))]
  exact h.2 b hb⟩
theorem gEq.at {Y : gL} {rs : List Nat} {σ τ : gS} (h : gEq Y rs σ τ) {a i : Nat} (hi : gK Y a = i) (ha : i ∉ rs) : τ.1 a = σ.1 a := h.2 a (by rw [hi]; exact ha)
theorem gK_ne {Y : gL} {a b i j : Nat} (ha : gK Y a = i) (hb : gK Y b = j) (h : i ≠ j) : a ≠ b := fun e => h (by rw [← ha, ← hb, e])
/-! the layout of the model's cells -/
def gLM (Y : gL) (mo : Nat) : Prop := gK Y mo = 15 ∧ gK Y (gF Y mo 0) = 16 ∧ gK Y (gF Y mo 1) = 17 ∧ gK Y (gF Y mo 3) = 18 ∧ gK Y (gF Y mo 4) = 19 ∧ gK Y (gF Y mo 5) = 20 ∧ gK Y (gF Y mo 6) = 21 ∧ gK Y (gF Y mo 7) = 22 ∧ gK Y (gF Y mo 9) = 23 ∧ gK Y (gF Y mo 10) = 24
theorem gM0 {Y : gL} {mo : Nat} (h : gLM Y mo) : gK Y mo = 15 := h.1
theorem gM1 {Y : gL} {mo : Nat} (h : gLM Y mo) : gK Y (gF Y mo 0) = 16 := h.2.1
theorem gM2 {Y : gL} {mo : Nat} (h : gLM Y mo) : gK Y (gF Y mo 1) = 17 := h.2.2.1
theorem gM3 {Y : gL} {mo : Nat} (h : gLM Y mo) : gK Y (gF Y mo 3) = 18 := h.2.2.2.1
theorem gM4 {Y : gL} {mo : Nat} (h : gLM Y mo) : gK Y (gF Y mo 4) = 19 := h.2.2.2.2.1
theorem gM5 {Y : gL} {mo : Nat} (h : gLM Y mo) : gK Y (gF Y mo 5) = 20 := h.2.2.2.2.2.1
theorem gM6 {Y : gL} {mo : Nat} (h : gLM Y mo) : gK Y (gF Y mo 6) = 21 := h.2.2.2.2.2.2.1
theorem gM7 {Y : gL} {mo : Nat} (h : gLM Y mo) : gK Y (gF Y mo 7) = 22 := h.2.2.2.2.2.2.2.1
theorem gM9 {Y : gL} {mo : Nat} (h : gLM Y mo) : gK Y (gF Y mo 9) = 23 := h.2.2.2.2.2.2.2.2.1
theorem gM10 {Y : gL} {mo : Nat} (h : gLM Y mo) : gK Y (gF Y mo 10) = 24 := h.2.2.2.2.2.2.2.2.2
/-- the model's row is r, of n cells -/
def gRow (Y : gL) (mo : Nat) (σ : gS) (r : Nat → Int32) (n : Nat) : Prop := σ.1 (gF Y mo 0) = r ∧ r 0 = nI n ∧ n ≤ 12
