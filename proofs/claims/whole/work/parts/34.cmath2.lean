/-! ===== rows for the library's maximum, minimum, absolute value ===== -/
section GRM
variable {p : Program} {l : Launch} {e : Env} {R : Room} {s : State} {m : MethodId} {args : Array Value} {below : List Frame} {meth : Method} {c : Code} {ck cn : Nat} {Q : State → Prop} {σ : gS} {pc pc' : Nat} {lv : List (Nat × Value)} {st st0 : List Value} {cc : ByteArray} {nL : Nat} {Y : gL} {own : String} {ret : Option FieldType}
def gLm (R : Room) (ck cn : Nat) (st : List Value) : Bool := Nat.ble 1 R.frames && (Nat.ble 21 R.locals && (Nat.ble ck R.cells && (Nat.ble cn R.slots && Nat.ble (st.map fun v => v.category).sum 8)))
theorem gLm_spec {R : Room} {ck cn : Nat} {st : List Value} (h : gLm R ck cn st = true) : 1 ≤ R.frames ∧ (st.map fun v => v.category).sum + 13 ≤ R.locals ∧ ck ≤ R.cells ∧ cn ≤ R.slots := by
  unfold gLm at h
  simp only [Bool.and_eq_true] at h
  have h1 := Nat.le_of_ble_eq_true h.1
  have h2 := Nat.le_of_ble_eq_true h.2.1
  have h3 := Nat.le_of_ble_eq_true h.2.2.1
  have h4 := Nat.le_of_ble_eq_true h.2.2.2.1
  have h5 := Nat.le_of_ble_eq_true h.2.2.2.2
  exact ⟨h1, by omega, h3, h4⟩
theorem gx_mmax (hC : gOK p s m args meth c Y cc nL own ret) {a b : Int32} {idx : Nat} (hlk : Cond.methodLink own idx Lib.Math.max.name ∈ wsL_law) (hR : gLm R ck cn st = true) (hdg : decode cc pc = .ok (.invokestatic idx, 3)) (hp : pc + 3 = pc') (kk : gW p l e R s m args below meth c (gP Y) (gA Y) ck cn Q σ pc' lv (.int (if a < b then b else a) :: st)) : gW p l e R s m args below meth c (gP Y) (gA Y) ck cn Q σ pc lv (.int b :: .int a :: st) := by
  subst hp
  obtain ⟨r1, r2, r3, r4⟩ := gLm_spec hR
  exact fun H locs ls h1 h2 h3 => va_mmax hC.1.1 hC.1.2.1 h3.1.symm hC.2.1 (hC.2.2.1 _ hlk) (hC.2.2.1 _ wt_Lib_Math_max_name) (hC.2.2.1 _ wn__java_lang_Math_) (hC.2.2.1 _ wc_Lib_Math_max_name) r1 r2 r3 r4 hdg (kk H locs ls h1 h2 h3)
theorem gx_mmin (hC : gOK p s m args meth c Y cc nL own ret) {a b : Int32} {idx : Nat} (hlk : Cond.methodLink own idx Lib.Math.min.name ∈ wsL_law) (hR : gLm R ck cn st = true) (hdg : decode cc pc = .ok (.invokestatic idx, 3)) (hp : pc + 3 = pc') (kk : gW p l e R s m args below meth c (gP Y) (gA Y) ck cn Q σ pc' lv (.int (if b < a then b else a) :: st)) : gW p l e R s m args below meth c (gP Y) (gA Y) ck cn Q σ pc lv (.int b :: .int a :: st) := by
  subst hp
  obtain ⟨r1, r2, r3, r4⟩ := gLm_spec hR
  exact fun H locs ls h1 h2 h3 => va_mmin hC.1.1 hC.1.2.1 h3.1.symm hC.2.1 (hC.2.2.1 _ hlk) (hC.2.2.1 _ wt_Lib_Math_min_name) (hC.2.2.1 _ wn__java_lang_Math_) (hC.2.2.1 _ wc_Lib_Math_min_name) r1 r2 r3 r4 hdg (kk H locs ls h1 h2 h3)
theorem gx_mabs (hC : gOK p s m args meth c Y cc nL own ret) {a : Int32} {idx : Nat} (hlk : Cond.methodLink own idx Lib.Math.abs.name ∈ wsL_law) (hR : gLm R ck cn st = true) (hdg : decode cc pc = .ok (.invokestatic idx, 3)) (hp : pc + 3 = pc') (kk : gW p l e R s m args below meth c (gP Y) (gA Y) ck cn Q σ pc' lv (.int (if 0 ≤ a then a else 0 - a) :: st)) : gW p l e R s m args below meth c (gP Y) (gA Y) ck cn Q σ pc lv (.int a :: st) := by
  subst hp
  obtain ⟨r1, r2, r3, r4⟩ := gLm_spec hR
  exact fun H locs ls h1 h2 h3 => va_mabs hC.1.1 hC.1.2.1 h3.1.symm hC.2.1 (hC.2.2.1 _ hlk) (hC.2.2.1 _ wt_Lib_Math_abs_name) (hC.2.2.1 _ wn__java_lang_Math_) (hC.2.2.1 _ wc_Lib_Math_abs_name) r1 r2 r3 r4 hdg (kk H locs ls h1 h2 h3)
end GRM
/-! ===== running a cell: results as the class writes them ===== -/
def zlim (x : Int32) : Int32 := if x < -9999 then 10006 else if 9999 < x then 10006 else x
def zcmb (op a b : Int32) : Int32 := if ¬ a < 10000 ∨ ¬ b < 10000 then 10005 else if op = 0 then zlim (a + b) else if op = 1 then zlim (a - b) else if op = 2 then zlim (a * b) else if op = 3 then (if b = 0 then 10007 else a / b) else if op = 4 then (if a < b then b else a) else (if b < a then b else a)
def zop (g : qG) (r : Nat → Int32) (x : Int32) : Int32 := if x < 100 then x else zenc (r (17 + 10 * qsrc g x + 4))
theorem i32lt {a b : Int32} : a < b ↔ a.toInt < b.toInt := Int32.lt_iff_toInt_lt
theorem zenc_lo {v : Int32} (h : ¬ 9999 < v) : zenc v = v := if_neg h
theorem zok_enc {v : Int32} (h : qrok v) : (9999 < v ∧ ¬ zenc v < 10000 ∧ zenc v ≠ 0) ∨ (¬ v < -9999 ∧ ¬ 9999 < v ∧ zenc v = v ∧ zenc v < 10000) := by
  rcases h with ⟨h1, h2⟩ | h | h | h
  · refine Or.inr ⟨h1, h2, zenc_lo h2, ?_⟩
    rw [zenc_lo h2]
    rw [i32lt] at h2 ⊢
    have e1 : (9999 : Int32).toInt = 9999 := by decide
    have e2 : (10000 : Int32).toInt = 10000 := by decide
    omega
  all_goals (subst h; left; decide)
theorem zenc_inj {u v : Int32} (hu : qrok u) (hv : qrok v) (h : zenc u = zenc v) : u = v := by
  rcases zok_enc hu with ⟨a1, a2, a3⟩ | ⟨a1, a2, a3, a4⟩
  · rcases zok_enc hv with ⟨b1, b2, b3⟩ | ⟨b1, b2, b3, b4⟩
    · unfold zenc at h
      rw [if_pos a1, if_pos b1] at h
      have := congrArg (· + 10000) h
      simpa [Int32.sub_add_cancel] using this
    · exact absurd b4 (by rw [← h]; exact a2)
  · rcases zok_enc hv with ⟨b1, b2, b3⟩ | ⟨b1, b2, b3, b4⟩
    · exact absurd a4 (by rw [h]; exact b2)
    · rw [← a3, ← b3, h]
theorem zdiv {a b : Int32} (h1 : ¬ a < -9999) (h2 : ¬ 9999 < a) : ¬ a / b < -9999 ∧ ¬ 9999 < a / b := by
  rw [i32lt, show (-9999 : Int32).toInt = -9999 by decide] at h1 ⊢
  rw [i32lt, show (9999 : Int32).toInt = 9999 by decide] at h2 ⊢
  have e3 := Int.natAbs_tdiv_le_natAbs a.toInt b.toInt
  rw [Int32.toInt_div]
  have e4 : (a.toInt.tdiv b.toInt).bmod (2 ^ 32) = a.toInt.tdiv b.toInt := by
    apply Int.bmod_eq_of_le <;> omega
  rw [e4]
  omega
/-- an operand's result, on both sides -/
theorem zop_ov {g : qG} {r : Nat → Int32} {y : Nat} (hy : y < 110) (h : ¬ nI y < 100 → qrok (r (17 + 10 * qsrc g (nI y) + 4))) : (¬ zop g r (nI y) < 10000 ∧ qov g r (nI y) = 20000) ∨ (zop g r (nI y) < 10000 ∧ zop g r (nI y) = qov g r (nI y) ∧ ¬ qov g r (nI y) < -9999 ∧ ¬ 9999 < qov g r (nI y) ∧ qov g r (nI y) ≠ 20000) := by
  unfold zop qov
  rcases Nat.lt_or_ge y 100 with q | q
  · right
    have this : nI y < 100 := nI_lt q (show (100 : Nat) < 2 ^ 31 by omega)
    rw [if_pos this, if_pos this]
    have e := nI_toInt (n := y) (by omega)
    refine ⟨?_, rfl, ?_, ?_, fun z => ?_⟩
    · rw [i32lt, e, show (10000 : Int32).toInt = 10000 by decide]; omega
    · rw [i32lt, e, show (-9999 : Int32).toInt = -9999 by decide]; omega
    · rw [i32lt, e, show (9999 : Int32).toInt = 9999 by decide]; omega
    · have := congrArg Int32.toInt z
      rw [e, show (20000 : Int32).toInt = 20000 by decide] at this
      omega
  · have hn : ¬ nI y < 100 := nI_nlt q (by omega)
    rw [if_neg hn, if_neg hn]
    rcases zok_enc (h hn) with ⟨a1, a2, -⟩ | ⟨a1, a2, a3, a4⟩
    · exact Or.inl ⟨a2, if_pos a1⟩
    · rw [if_neg a2]
      exact Or.inr ⟨a4, a3, a1, a2, fun z => a2 (by rw [z]; decide)⟩
theorem zlim_enc (x : Int32) : zlim x = zenc (if ¬ x < -9999 ∧ ¬ 9999 < x then x else 20006) := by
  unfold zlim
  by_cases h1 : x < -9999
  · rw [if_pos h1, if_neg (fun q => q.1 h1)]
    rfl
  · by_cases h2 : 9999 < x
    · rw [if_neg h1, if_pos h2, if_neg (fun q => q.2 h2)]
      rfl
    · rw [if_neg h1, if_neg h2, if_pos ⟨h1, h2⟩, zenc_lo h2]
/-- what a run finds -/
theorem zcmb_q {g : qG} {r : Nat → Int32} {i x y : Nat} (hx : x < 110) (hy : y < 110) (ex : r (17 + 10 * i + 2) = nI x) (ey : r (17 + 10 * i + 3) = nI y) (h2 : ¬ nI x < 100 → qrok (r (17 + 10 * qsrc g (nI x) + 4))) (h3 : ¬ nI y < 100 → qrok (r (17 + 10 * qsrc g (nI y) + 4))) : zcmb (r (17 + 10 * i + 1)) (zop g r (nI x)) (zop g r (nI y)) = zenc (qcmp g r i) := by
  unfold zcmb qcmp
  rw [ex, ey]
  rcases zop_ov hx h2 with ⟨a1, a2⟩ | ⟨a1, a2, a3, a4, a5⟩
  · rw [if_pos (Or.inl a1), if_pos (Or.inl a2)]
    rfl
  rcases zop_ov hy h3 with ⟨b1, b2⟩ | ⟨b1, b2, b3, b4, b5⟩
  · rw [if_pos (Or.inr b1), if_pos (Or.inr b2)]
    rfl
  rw [if_neg (by rintro (q | q); exact q a1; exact q b1), if_neg (show ¬ (qov g r (nI x) = 20000 ∨ qov g r (nI y) = 20000) by rintro (q | q); exact a5 q; exact b5 q), a2, b2]
  generalize qov g r (nI x) = a at *
  generalize qov g r (nI y) = b at *
  generalize r (17 + 10 * i + 1) = op at *
  unfold qex3
  by_cases o0 : op = 0
  · rw [if_pos o0, if_pos o0, if_neg (by rw [o0]; exact fun q => absurd q.1 (by decide))]
    exact zlim_enc _
  by_cases o1 : op = 1
  · rw [if_neg o0, if_neg o0, if_pos o1, if_pos o1, if_neg (by rw [o1]; exact fun q => absurd q.1 (by decide))]
    exact zlim_enc _
  by_cases o2 : op = 2
  · rw [if_neg o0, if_neg o0, if_neg o1, if_neg o1, if_pos o2, if_pos o2, if_neg (by rw [o2]; exact fun q => absurd q.1 (by decide))]
    exact zlim_enc _
  by_cases o3 : op = 3
  · rw [if_neg o0, if_neg o0, if_neg o1, if_neg o1, if_neg o2, if_neg o2, if_pos o3, if_pos o3]
    by_cases z : b = 0
    · rw [if_pos z, if_pos ⟨o3, z⟩]
      rfl
    · rw [if_neg z, if_neg (fun q => z q.2), if_pos (zdiv a3 a4), zenc_lo (zdiv a3 a4).2]
  rw [if_neg o0, if_neg o0, if_neg o1, if_neg o1, if_neg o2, if_neg o2, if_neg o3, if_neg o3, if_neg (show ¬ (op = 3 ∧ b = 0) from fun q => o3 q.1)]
  have lt : ∀ u v : Int32, u < v → ¬ v < u := fun u v q z => by rw [i32lt] at q z; omega
  have an : ∀ u v : Int32, ¬ u < v → ¬ v < u → u = v := fun u v q z => Int32.toInt_inj.mp (by rw [i32lt] at q z; omega)
  by_cases o4 : op = 4
  · rw [if_pos o4, if_pos o4]
    have e : (if a < b then b else a) = if b < a then a else b := by
      by_cases q : a < b
      · rw [if_pos q, if_neg (lt _ _ q)]
      · rw [if_neg q]
        by_cases z : b < a
        · rw [if_pos z]
        · rw [if_neg z, an _ _ q z]
    rw [← e]
    have e2 : ¬ (if a < b then b else a) < -9999 ∧ ¬ 9999 < (if a < b then b else a) := by split <;> exact ⟨by assumption, by assumption⟩
    rw [if_pos e2, zenc_lo e2.2]
  · rw [if_neg o4, if_neg o4]
    have e : (if b < a then b else a) = if a < b then a else b := by
      by_cases q : a < b
      · rw [if_pos q, if_neg (lt _ _ q)]
      · rw [if_neg q]
        by_cases z : b < a
        · rw [if_pos z]
        · rw [if_neg z, an _ _ q z]
    rw [← e]
    have e2 : ¬ (if b < a then b else a) < -9999 ∧ ¬ 9999 < (if b < a then b else a) := by split <;> exact ⟨by assumption, by assumption⟩
    rw [if_pos e2, zenc_lo e2.2]
theorem zcmb_e (op : Int32) {a b : Int32} (h : ¬ a < 10000 ∨ ¬ b < 10000) : zcmb op a b = 10005 := if_pos h
theorem zcmb_n (op : Int32) {a b : Int32} (ha : ¬ ¬ a < 10000) (hb : ¬ ¬ b < 10000) : zcmb op a b = if op = 0 then zlim (a + b) else if op = 1 then zlim (a - b) else if op = 2 then zlim (a * b) else if op = 3 then (if b = 0 then 10007 else a / b) else if op = 4 then (if a < b then b else a) else (if b < a then b else a) := if_neg (by rintro (q | q); exact ha q; exact hb q)
theorem zvo0 {g : qG} {r : Nat → Int32} {x : Int32} (hs : ¬ x < 100 → qsrc g x < 12) (h : qsrc g x = 12) : qvo g r x = 0 := if_pos (Classical.byContradiction fun q => absurd (hs q) (by omega))
theorem zvo1 {g : qG} {r : Nat → Int32} {x : Int32} (h : qsrc g x < 12) : qvo g r x = r (17 + 10 * qsrc g x + 5) := if_neg (fun q => absurd h (by unfold qsrc; rw [if_pos q]; decide))
theorem zop0 {g : qG} {r : Nat → Int32} {x : Int32} (hs : ¬ x < 100 → qsrc g x < 12) (h : qsrc g x = 12) : zop g r x = x := if_pos (Classical.byContradiction fun q => absurd (hs q) (by omega))
theorem zop1 {g : qG} {r : Nat → Int32} {x : Int32} (h : qsrc g x < 12) : zop g r x = zenc (r (17 + 10 * qsrc g x + 4)) := if_neg (fun q => absurd h (by unfold qsrc; rw [if_pos q]; decide))
theorem zlim_c {x z : Int32} (h : (x < -9999 ∧ 10006 = z) ∨ (¬ x < -9999 ∧ 9999 < x ∧ 10006 = z) ∨ (¬ x < -9999 ∧ ¬ 9999 < x ∧ x = z)) : zlim x = z := by
  unfold zlim
  rcases h with ⟨h1, rfl⟩ | ⟨h1, h2, rfl⟩ | ⟨h1, h2, rfl⟩
  · rw [if_pos h1]
  · rw [if_neg h1, if_pos h2]
  · rw [if_neg h1, if_neg h2]
theorem zcmb_c {op a b z : Int32} (ha : ¬ ¬ a < 10000) (hb : ¬ ¬ b < 10000) (h : (op = 0 ∧ z = zlim (a + b)) ∨ (op = 1 ∧ z = zlim (a - b)) ∨ (op = 2 ∧ z = zlim (a * b)) ∨ (op = 3 ∧ z = if b = 0 then 10007 else a / b) ∨ (op = 4 ∧ z = if a < b then b else a) ∨ (¬ op = 0 ∧ ¬ op = 1 ∧ ¬ op = 2 ∧ ¬ op = 3 ∧ ¬ op = 4 ∧ z = if b < a then b else a)) : zcmb op a b = z := by
  rw [zcmb_n op ha hb]
  rcases h with ⟨e, rfl⟩ | ⟨e, rfl⟩ | ⟨e, rfl⟩ | ⟨e, rfl⟩ | ⟨e, rfl⟩ | ⟨h0, h1, h2, h3, h4, rfl⟩
  · rw [if_pos e]
  · rw [if_neg (show ¬ op = 0 by rw [e]; decide), if_pos e]
  · rw [if_neg (show ¬ op = 0 by rw [e]; decide), if_neg (show ¬ op = 1 by rw [e]; decide), if_pos e]
  · rw [if_neg (show ¬ op = 0 by rw [e]; decide), if_neg (show ¬ op = 1 by rw [e]; decide), if_neg (show ¬ op = 2 by rw [e]; decide), if_pos e]
  · rw [if_neg (show ¬ op = 0 by rw [e]; decide), if_neg (show ¬ op = 1 by rw [e]; decide), if_neg (show ¬ op = 2 by rw [e]; decide), if_neg (show ¬ op = 3 by rw [e]; decide), if_pos e]
  · rw [if_neg h0, if_neg h1, if_neg h2, if_neg h3, if_neg h4]
/-- an operand's source, where it is a variable: another cell, with a result -/
def zSo (g : qG) (r : Nat → Int32) (i : Nat) (x : Int32) : Prop := ¬ x < 100 → qsrc g x < 12 ∧ qsrc g x ≠ i ∧ r (17 + 10 * qsrc g x + 5) ≠ 0 ∧ qrok (r (17 + 10 * qsrc g x + 4))
theorem zSo.at {g : qG} {r : Nat → Int32} {i : Nat} {x : Int32} (h : zSo g r i x) (hl : qsrc g x < 12) : qsrc g x ≠ i ∧ r (17 + 10 * qsrc g x + 5) ≠ 0 ∧ qrok (r (17 + 10 * qsrc g x + 4)) := (h (fun q => absurd hl (by unfold qsrc; rw [if_pos q]; decide))).2
theorem qrun_3 {g : qG} {r : Nat → Int32} {c k : Nat} (hk : k < 12) (h4 : r 4 = nI k) : qrun g r c 3 = r 3 + 1 := by
  rw [qrun_eq hk h4, qup_off (by omega), qup_off (by omega)]
  exact qup_at
theorem qrun_8 {g : qG} {r : Nat → Int32} {c k : Nat} (hk : k < 12) (h4 : r 4 = nI k) : qrun g r c (17 + 10 * c + 8) = r (17 + 10 * c + 8) + 1 := by
  rw [qrun_of hk h4 (by omega)]
  unfold qr4
  rw [qup_off (by omega), qup_at]
theorem qrun_lst {g : qG} {r : Nat → Int32} {c k j : Nat} (hk : k < 12) (h4 : r 4 = nI k) (hj : j < k) : qrun g r c (5 + j) = r (5 + j) := by
  rw [qrun_eq hk h4, qup_off (by omega), qup_off (by omega), qr4_off (by omega) (by omega) (by omega) (by omega) (by omega) (by omega) (by omega)]
theorem qrun_new {g : qG} {r : Nat → Int32} {c k : Nat} (hk : k < 12) (h4 : r 4 = nI k) : qrun g r c (5 + k) = nI c := by
  rw [qrun_eq hk h4, qup_off (by omega), qup_at]
/-- what a run has written before it counts -/
def zR1 (t a : Nat) (σ : gS) (f : Nat → Nat → Int32) (g : qG) (r : Nat → Int32) (i x y : Nat) : Prop := (∀ b, b ≠ t → b ≠ a → f b = σ.1 b) ∧ (∀ k, k ≠ 4 → f t k = σ.1 t k) ∧ f t 4 = qr1 g r i 2 ∧ (∀ k, k ≠ 4 → k ≠ 5 → k ≠ 6 → k ≠ 7 → f a k = σ.1 a k) ∧ f a 5 = qr1 g r i (17 + 10 * i + 5) ∧ f a 4 = zenc (qcmp g r i) ∧ f a 6 = qvo g r (nI x) ∧ f a 7 = qvo g r (nI y)
theorem zR1.fin {Y : gL} {t : Nat} {σ : gS} {f : Nat → Nat → Int32} {g : qG} {r : Nat → Int32} {i x y n k : Nat} (h : zR1 t (σ.2.1 (gF Y t 0) i) σ f g r i x y) (hS : zLS Y) (ht : gK Y t = 11) (hc : zCs Y σ.2.1 t) (hB : zB Y σ t r n) (hk : k < 12) (h4 : r 4 = nI k) (hL : zL Y σ t r) (hi : i < n) (ex : r (17 + 10 * i + 2) = nI x) (ey : r (17 + 10 * i + 3) = nI y) (hsx : zSo g r i (nI x)) (hsy : zSo g r i (nI y)) {τ : gS} (hτ : uI (uI (uI (uI (f, σ.2) (σ.2.1 (gF Y t 0) i) 8 (f (σ.2.1 (gF Y t 0) i) 8 + 1)) t 3 ((uI (f, σ.2) (σ.2.1 (gF Y t 0) i) 8 (f (σ.2.1 (gF Y t 0) i) 8 + 1)).1 t 3 + 1)) (gF Y t 5) k (nI i)) t 6 (nI (k + 1)) = τ) : zN (zW Y t) σ τ ∧ zB Y τ t (qrun g r i) n ∧ zL Y τ t (qrun g r i) := by
  obtain ⟨h1, h2, h3, h5, h6, h7, h8, h9⟩ := h
  obtain ⟨b0, b1, b2, b3, b4, b5, b6⟩ := hB
  obtain ⟨k', l1, l2, l3, l4⟩ := hL
  obtain rfl : k' = k := (nI_eq (by omega) (by omega)).mp (l2.symm.trans h4)
  have n1 : σ.2.1 (gF Y t 0) i ≠ t := gK_ne (hc i (by omega)).1 ht (by decide)
  have n2 : gF Y t 5 ≠ t := gK_ne (hS t ht).2.1 ht (by decide)
  have n3 : gF Y t 5 ≠ σ.2.1 (gF Y t 0) i := gK_ne (hS t ht).2.1 (hc i (by omega)).1 (by decide)
  have wi := hc.w (i := i) (by omega)
  have z0 : zN (zW Y t) σ (f, σ.2) := ⟨rfl, fun b hb => h1 b (fun e => hb (by rw [e]; exact hS.w0 ht)) (fun e => hb (by rw [e]; exact wi))⟩
  have zn : zN (zW Y t) σ τ := by
    rw [← hτ]
    exact (((z0.put wi).put (hS.w0 ht)).put (hS.w5 ht)).put (hS.w0 ht)
  have t0 : ∀ j, j ≠ 3 → j ≠ 4 → j ≠ 6 → τ.1 t j = σ.1 t j := fun j j3 j4 j6 => by
    rw [← hτ, uI_off j6, uI_ne n2.symm, uI_off j3, uI_ne n1.symm]
    exact h2 j j4
  have t3 : τ.1 t 3 = σ.1 t 3 + 1 := by
    rw [← hτ, uI_off (by decide), uI_ne n2.symm, uI_at, uI_ne n1.symm]
    exact congrArg (· + 1) (h2 3 (by decide))
  have t4 : τ.1 t 4 = qr1 g r i 2 := by
    rw [← hτ, uI_off (by decide), uI_ne n2.symm, uI_off (by decide), uI_ne n1.symm]
    exact h3
  have t6 : τ.1 t 6 = nI (k' + 1) := by rw [← hτ, uI_at]
  have a0 : ∀ j, j ≠ 8 → τ.1 (σ.2.1 (gF Y t 0) i) j = f (σ.2.1 (gF Y t 0) i) j := fun j j8 => by
    rw [← hτ, uI_ne n1, uI_ne n3.symm, uI_ne n1, uI_off j8]
  have a8 : τ.1 (σ.2.1 (gF Y t 0) i) 8 = σ.1 (σ.2.1 (gF Y t 0) i) 8 + 1 := by
    rw [← hτ, uI_ne n1, uI_ne n3.symm, uI_ne n1, uI_at, h5 8 (by decide) (by decide) (by decide) (by decide)]
  have lj : ∀ j, τ.1 (gF Y t 5) j = if j = k' then nI i else σ.1 (gF Y t 5) j := fun j => by
    rw [← hτ, uI_ne n2]
    by_cases e : j = k'
    · rw [if_pos e, e, uI_at]
    · rw [if_neg e, uI_off e, uI_ne n2, uI_ne n3, ← h1 _ n2 n3]
  refine ⟨zn, ⟨?_, b1, ?_, ?_, ?_, ?_, fun d hd => ?_⟩, ⟨k' + 1, by omega, qrun_l hk h4, t6, fun j hj => ?_⟩⟩
  · rw [qrun_01 hk h4 (by omega)]; exact b0
  · rw [t0 1 (by decide) (by decide) (by decide)]; exact b2
  · rw [t0 2 (by decide) (by decide) (by decide), qrun_01 hk h4 (by omega)]; exact b3
  · rw [t3, qrun_3 hk h4, b4]
  · rw [t4, qrun_2 hk h4]
  · rw [zn.1]
    by_cases e : d = i
    · subst e
      obtain ⟨c0, c1, c2, c3, c5, c8, c9⟩ := b6 d hd
      have lo : ∀ j, j < 4 → τ.1 (σ.2.1 (gF Y t 0) d) j = σ.1 (σ.2.1 (gF Y t 0) d) j ∧ qrun g r d (17 + 10 * d + j) = r (17 + 10 * d + j) := fun j hj => ⟨by rw [a0 j (by omega), h5 j (by omega) (by omega) (by omega) (by omega)], qrun_off hk h4 (by omega) (by omega) (by omega) (by omega) (by omega) (by omega)⟩
      refine ⟨?_, ?_, ?_, ?_, ?_, ?_, fun _ => ⟨?_, ?_, ?_⟩⟩
      · rw [(lo 0 (by omega)).1, (lo 0 (by omega)).2]; exact c0
      · rw [(lo 1 (by omega)).1, (lo 1 (by omega)).2]; exact c1
      · rw [(lo 2 (by omega)).1, (lo 2 (by omega)).2]; exact c2
      · rw [(lo 3 (by omega)).1, (lo 3 (by omega)).2]; exact c3
      · rw [a0 5 (by decide), qrun_5 hk h4]; exact h6
      · rw [a8, qrun_8 hk h4, c8]
      · rw [a0 4 (by decide), qrun_4 hk h4]; exact h7
      · rw [a0 6 (by decide), qrun_6 hk h4, ex, qvo_r1 (fun q => (hsx q).2.1)]; exact h8
      · rw [a0 7 (by decide), qrun_7 hk h4, ey, qvo_r2 (fun q => (hsy q).2.1)]; exact h9
    · have nd : σ.2.1 (gF Y t 0) d ≠ σ.2.1 (gF Y t 0) i := fun z => e ((hc d (by omega)).2.2 i (by omega) z)
      have nt : σ.2.1 (gF Y t 0) d ≠ t := gK_ne (hc d (by omega)).1 ht (by decide)
      have n5 : σ.2.1 (gF Y t 0) d ≠ gF Y t 5 := gK_ne (hc d (by omega)).1 (hS t ht).2.1 (by decide)
      have ed : τ.1 (σ.2.1 (gF Y t 0) d) = σ.1 (σ.2.1 (gF Y t 0) d) := by
        rw [← hτ, uI_ne nt, uI_ne n5, uI_ne nt, uI_ne nd]
        exact h1 _ nt nd
      rw [ed]
      exact (b6 d hd).by (fun _ _ => rfl) (fun j hj => qrun_off hk h4 (by omega) (by omega) (by omega) (by omega) (by omega) (by omega))
  · rw [lj]
    by_cases e : j = k'
    · rw [if_pos e, e, qrun_new hk h4]
    · rw [if_neg e, qrun_lst hk h4 (by omega)]
      exact l4 j (by omega)
theorem zN.d1 {Y : gL} {nb : Nat} {σ τ : gS} {V : Nat → Int32} (h : zN (zW Y (gF Y nb 0)) σ τ) (hM : zLC Y nb) (d1 : ∀ v, v < 10 → σ.1 (gF Y (gF Y nb 4) 1) v = V v) : ∀ v, v < 10 → τ.1 (gF Y (gF Y nb 4) 1) v = V v := by
  rw [h.2 _ (fun w => w.role hM.2.2.2.2.1.2.2.1 (by decide) (by decide) (by decide))]
  exact d1
/-- fresh, as the class asks -/
theorem zfn {g : qG} {r : Nat → Int32} {fk : Nat → Bool} {M : Int32} {i x y : Nat} (hx : x < 110) (hy : y < 110) (ex : r (17 + 10 * i + 2) = nI x) (ey : r (17 + 10 * i + 3) = nI y) (hL : qL g i = nI x) (hR : qR g i = nI y) (hsx : ¬ nI x < 100 → qsrc g (nI x) < 12) (hsy : ¬ nI y < 100 → qsrc g (nI y) < 12) (hM : zM M fk) (hp : 0 < r (17 + 10 * i + 5) ↔ r (17 + 10 * i + 5) ≠ 0) (hq : qCI r i) (hn : qn g ≤ 12) : qfn g r fk i = true ↔ r (17 + 10 * i + 5) ≠ 0 ∧ qdir g i &&& (M ^^^ (-1)) = 0 ∧ r (17 + 10 * i + 6) = qvo g r (nI x) ∧ r (17 + 10 * i + 7) = qvo g r (nI y) := by
  have hb : qdir g i &&& (M ^^^ (-1)) = 0 ↔ (¬ nI x < 100 → fk (qsrc g (nI x)) = true) ∧ (¬ nI y < 100 → fk (qsrc g (nI y)) = true) := by
    rw [qt_diff]
    constructor
    · intro h
      refine ⟨fun q => ?_, fun q => ?_⟩
      · have := hsx q
        rw [← hM _ (by omega)]
        exact h _ (by omega) ((qdir_bit g i this).mpr (Or.inl (by rw [hL])))
      · have := hsy q
        rw [← hM _ (by omega)]
        exact h _ (by omega) ((qdir_bit g i this).mpr (Or.inr (by rw [hR])))
    · rintro ⟨h1, h2⟩ d hd hb
      have hd2 := qdir_lt hn hd hb
      have hd3 : d < 12 := by omega
      have s12 : ∀ z : Int32, z < 100 → qsrc g z = 12 := fun z q => by unfold qsrc; rw [if_pos q]
      rw [hM d hd]
      rcases (qdir_bit g i hd3).mp hb with e | e
      · rw [hL] at e
        rw [← e]
        exact h1 (fun q => by have := s12 _ q; omega)
      · rw [hR] at e
        rw [← e]
        exact h2 (fun q => by have := s12 _ q; omega)
  rw [hb]
  unfold qfn qkn qvo
  rw [ex, ey]
  simp only [Bool.and_eq_true, Bool.or_eq_true, decide_eq_true_eq, hp]
  constructor
  · rintro ⟨h5, h6, h7⟩
    have hq5 := hq.2.2.2 h5
    rw [ex, ey] at hq5
    refine ⟨h5, ⟨fun q => (h6.resolve_left q).1, fun q => (h7.resolve_left q).1⟩, ?_, ?_⟩
    · by_cases q : nI x < 100
      · rw [if_pos q]; exact hq5.2.1 q
      · rw [if_neg q]; exact (h6.resolve_left q).2.symm
    · by_cases q : nI y < 100
      · rw [if_pos q]; exact hq5.2.2 q
      · rw [if_neg q]; exact (h7.resolve_left q).2.symm
  · rintro ⟨h5, ⟨h6, h7⟩, h8, h9⟩
    refine ⟨h5, ?_, ?_⟩
    · by_cases q : nI x < 100
      · exact Or.inl q
      · rw [if_neg q] at h8; exact Or.inr ⟨h6 q, h8.symm⟩
    · by_cases q : nI y < 100
      · exact Or.inl q
      · rw [if_neg q] at h9; exact Or.inr ⟨h7 q, h9.symm⟩
theorem qr1_yes {g : qG} {r : Nat → Int32} {i : Nat} (h : r (17 + 10 * i + 5) = 0 ∨ r (17 + 10 * i + 4) ≠ qcmp g r i) : qr1 g r i 2 = r 2 + 1 ∧ qr1 g r i (17 + 10 * i + 5) = r 2 + 1 := ⟨by rw [qr1_2, if_pos h], by rw [qr1_5, if_pos h]⟩
theorem qr1_no {g : qG} {r : Nat → Int32} {i : Nat} (h0 : r (17 + 10 * i + 5) ≠ 0) (h : zenc (qcmp g r i) = zenc (r (17 + 10 * i + 4))) (hq : qrok (r (17 + 10 * i + 4))) : qr1 g r i 2 = r 2 ∧ qr1 g r i (17 + 10 * i + 5) = r (17 + 10 * i + 5) := by
  have e := zenc_inj (qcmp_ok g r i) hq h
  have hn : ¬ (r (17 + 10 * i + 5) = 0 ∨ r (17 + 10 * i + 4) ≠ qcmp g r i) := by rintro (q | q); exact h0 q; exact q e.symm
  exact ⟨by rw [qr1_2, if_neg hn], by rw [qr1_5, if_neg hn]⟩
/-! ===== the walk along the run order ===== -/
theorem zB.put {Y : gL} {σ : gS} {t : Nat} {r : Nat → Int32} {n : Nat} (h : zB Y σ t r n) (hS : zLS Y) (ht : gK Y t = 11) (hc : zCs Y σ.2.1 t) {a k : Nat} {v : Int32} (ha : ¬ zW Y t a) : zB Y (uI σ a k v) t r n := h.same hS ht hc rfl (fun b hb => uI_ne (fun e => ha (by rw [← e]; exact hb)))
theorem zL.put {Y : gL} {σ : gS} {t : Nat} {r : Nat → Int32} (h : zL Y σ t r) (hS : zLS Y) (ht : gK Y t = 11) {a k : Nat} {v : Int32} (ha : ¬ zW Y t a) : zL Y (uI σ a k v) t r := h.same hS ht (fun b hb => uI_ne (fun e => ha (by rw [← e]; exact hb)))
theorem zM.or {M : Int32} {fk : Nat → Bool} {i : Nat} (h : zM M fk) (hi : i < 32) : zM (M ||| qb i) (qub fk i true) := by
  intro d hd
  rw [qt_or _ _ hd, h d hd, qt_qb hi hd]
  unfold qub
  by_cases e : d = i
  · rw [if_pos e, e]; simp
  · rw [if_neg e]; simp [e]
theorem zM.no {M : Int32} {fk : Nat → Bool} {i : Nat} (h : zM M fk) (hi : fk i = false) : zM M (qub fk i false) := by
  intro d hd
  rw [h d hd]
  unfold qub
  by_cases e : d = i
  · rw [if_pos e, e, hi]
  · rw [if_neg e]
theorem zM_0 : zM 0 (fun _ => false) := fun d hd => qt_0 d hd
/-- what each step of the walk needs -/
def zWk (g : qG) (r0 : Nat → Int32) (set : Int32) : Prop := ∀ k, k < qm g → qg (qwk g set r0 k).1 (qn g) = g ∧ qCI (qwk g set r0 k).1 (qo g k) ∧ (0 < (qwk g set r0 k).1 (17 + 10 * qo g k + 5) ↔ (qwk g set r0 k).1 (17 + 10 * qo g k + 5) ≠ 0) ∧ (qwk g set r0 k).2 (qo g k) = false ∧ (qt set (qo g k) = true → (∃ j, j < 12 ∧ (qwk g set r0 k).1 4 = nI j) ∧ zSo g (qwk g set r0 k).1 (qo g k) ((qwk g set r0 k).1 (17 + 10 * qo g k + 2)) ∧ zSo g (qwk g set r0 k).1 (qo g k) ((qwk g set r0 k).1 (17 + 10 * qo g k + 3)))
def zWI (Y : gL) (nb : Nat) (σ : gS) (g : qG) (r0 : Nat → Int32) (set : Int32) (k : Nat) (f : Nat → Nat → Int32) : Prop := zN (fun a => zW Y (gF Y nb 0) a ∨ a = nb) σ (f, σ.2) ∧ f nb 2 = σ.1 nb 2 ∧ zB Y (f, σ.2) (gF Y nb 0) (qwk g set r0 k).1 (qn g) ∧ zL Y (f, σ.2) (gF Y nb 0) (qwk g set r0 k).1 ∧ zM (f nb 5) (qwk g set r0 k).2
theorem znb {Y : gL} {nb : Nat} (hM : zLC Y nb) {t : Nat} : ¬ zW Y t nb := fun z => z.role hM.1 (by decide) (by decide) (by decide)
theorem zWI.ini {Y : gL} {nb : Nat} {σ : gS} {g : qG} {r0 : Nat → Int32} {set : Int32} (hM : zLC Y nb) (hc : zCs Y σ.2.1 (gF Y nb 0)) (hB : zB Y σ (gF Y nb 0) r0 (qn g)) (hL : zL Y σ (gF Y nb 0) r0) : zWI Y nb σ g r0 set 0 (uI σ nb 5 0).1 :=
  ⟨zN.rf.put (Or.inr rfl), uI_off (by decide), hB.put hM.2.2.2.2.2 hM.2.1 hc (znb hM), hL.put hM.2.2.2.2.2 hM.2.1 (znb hM), by
    show zM ((uI σ nb 5 0).1 nb 5) _
    rw [uI_at]
    exact zM_0⟩
theorem zWI.a {Y : gL} {nb k : Nat} {σ : gS} {g : qG} {r0 : Nat → Int32} {set : Int32} {f : Nat → Nat → Int32} (h : zWI Y nb σ g r0 set k f) (hM : zLC Y nb) (hc : zCs Y σ.2.1 (gF Y nb 0)) (hi : qo g k < 12) (hf : qfn g (qwk g set r0 k).1 (qwk g set r0 k).2 (qo g k) = true) : zWI Y nb σ g r0 set (k + 1) (uI (f, σ.2) nb 5 (f nb 5 ||| ((1 : Int32) <<< (nI (qo g k) &&& 31)))).1 := by
  obtain ⟨h1, h2, h3, h4, h5⟩ := h
  unfold zWI
  rw [qwk_f hf]
  refine ⟨h1.put (Or.inr rfl), (uI_off (by decide)).trans h2, h3.put hM.2.2.2.2.2 hM.2.1 hc (znb hM), h4.put hM.2.2.2.2.2 hM.2.1 (znb hM), ?_⟩
  rw [uI_at]
  exact h5.or (by omega)
theorem zWI.b {Y : gL} {nb k : Nat} {σ : gS} {g : qG} {r0 : Nat → Int32} {set : Int32} {f f2 : Nat → Nat → Int32} (h : zWI Y nb σ g r0 set k f) (hM : zLC Y nb) (hc : zCs Y σ.2.1 (gF Y nb 0)) (hi : qo g k < 12) (hf : ¬ qfn g (qwk g set r0 k).1 (qwk g set r0 k).2 (qo g k) = true) (hs : qt set (qo g k) = true) (hr : zN (zW Y (gF Y nb 0)) (f, σ.2) (f2, σ.2) ∧ zB Y (f2, σ.2) (gF Y nb 0) (qrun g (qwk g set r0 k).1 (qo g k)) (qn g) ∧ zL Y (f2, σ.2) (gF Y nb 0) (qrun g (qwk g set r0 k).1 (qo g k))) : zWI Y nb σ g r0 set (k + 1) (uI (f2, σ.2) nb 5 (f2 nb 5 ||| ((1 : Int32) <<< (nI (qo g k) &&& 31)))).1 := by
  obtain ⟨h1, h2, h3, h4, h5⟩ := h
  have en : f2 nb = f nb := hr.1.2 nb (znb hM)
  unfold zWI
  rw [qwk_r hf hs]
  refine ⟨(h1.tr (hr.1.mono (fun _ q => Or.inl q))).put (Or.inr rfl), (uI_off (by decide)).trans ((congrFun en 2).trans h2), hr.2.1.put hM.2.2.2.2.2 hM.2.1 hc (znb hM), hr.2.2.put hM.2.2.2.2.2 hM.2.1 (znb hM), ?_⟩
  rw [uI_at, en]
  exact h5.or (by omega)
theorem zWI.c {Y : gL} {nb k : Nat} {σ : gS} {g : qG} {r0 : Nat → Int32} {set : Int32} {f : Nat → Nat → Int32} (h : zWI Y nb σ g r0 set k f) (hf : ¬ qfn g (qwk g set r0 k).1 (qwk g set r0 k).2 (qo g k) = true) (hs : ¬ qt set (qo g k) = true) (hk : (qwk g set r0 k).2 (qo g k) = false) : zWI Y nb σ g r0 set (k + 1) f := by
  obtain ⟨h1, h2, h3, h4, h5⟩ := h
  unfold zWI
  rw [qwk_n hf hs]
  exact ⟨h1, h2, h3, h4, h5.no hk⟩
theorem zWI.G {Y : gL} {nb k : Nat} {σ : gS} {g : qG} {r0 : Nat → Int32} {set : Int32} {f : Nat → Nat → Int32} (h : zWI Y nb σ g r0 set k f) (hM : zLC Y nb) (hG : zG Y σ (gF Y nb 4) g) : zG Y (f, σ.2) (gF Y nb 4) g := hG.same hM.2.2.2.2.1 (fun a ha => h.1.2 a (by
  rintro (z | z)
  · exact z.no (by decide) (by decide) (by decide) ha
  · rw [z, hM.1] at ha
    revert ha
    decide))
theorem zWI.fin {Y : gL} {nb : Nat} {σ : gS} {g : qG} {r0 : Nat → Int32} {set : Int32} {f : Nat → Nat → Int32} {P : Nat → Nat → Int32} {q : Nat} {cn : Nat → Int32} (h : zWI Y nb σ g r0 set (qm g) f) (hM : zLC Y nb) (hg0 : qg r0 (qn g) = g) (hH : zH Y nb σ P q cn) (hG : zG Y σ (gF Y nb 4) g) (hE : qg (qrt r0 (qn g) set) (qn g) = g ∧ qF g (qrt r0 (qn g) set) = (qwk g set r0 (qm g)).2) : zA Y nb (f, σ.2) (qrt r0 (qn g) set, qn g, P, q, cn) := by
  have hG2 := h.G hM hG
  obtain ⟨h1, h2, h3, h4, h5⟩ := h
  have e : qrt r0 (qn g) set = (qwk g set r0 (qm g)).1 := by unfold qrt; rw [hg0]
  refine ⟨hH.fr hM (h1.mono (fun a => ?_)) h2, ?_, ?_, ?_, ?_⟩
  · rintro (z | z)
    · exact Or.inl z
    · exact Or.inr (by rw [z, hM.1]; decide)
  · rw [e]; exact h3
  · rw [e]; exact h4
  · show zG Y (f, σ.2) _ (qg (qrt r0 (qn g) set) (qn g))
    rw [hE.1]; exact hG2
  · show zM (f nb 5) (qF (qg (qrt r0 (qn g) set) (qn g)) (qrt r0 (qn g) set))
    rw [hE.1, hE.2]; exact h5
theorem qfr_fn {g : qG} {r : Nat → Int32} {s : Nat} : ∀ k, qfr g r k s = true → ∃ f, qfn g r f s = true
  | 0, h => absurd h Bool.false_ne_true
  | k + 1, h => by
    have h2 : qub (qfr g r k) (qo g k) (qfn g r (qfr g r k) (qo g k)) s = true := h
    unfold qub at h2
    split at h2
    · rename_i e
      exact ⟨_, by rw [e]; exact h2⟩
    · exact qfr_fn k h2
theorem zWk_of {r0 : Nat → Int32} {n B : Nat} {set : Int32} (hn : n ≤ 12) (hB : B + 12 < 2 ^ 30) (h : qRI r0 n B) (h4 : r0 4 = 0) (hcl : qcl (qg r0 n) set) : zWk (qg r0 n) r0 set := by
  intro k hk
  have hI := qwk_inv hn hB h h4 hcl k (by omega)
  have hm := qm_le (qg r0 n)
  have hgn : qn (qg r0 n) = n := rfl
  have hok : qo (qg r0 n) k < n := qm_lt hk
  have hok2 : qo (qg r0 n) k < qn (qg r0 n) := hok
  obtain ⟨i1, i2, i3, i4, i5, ⟨j0, hj0, i6⟩, i7, i8, i9⟩ := hI
  have hw := qw_src (g := qg r0 n) hn hok2 (qo_w hok2)
  have hself := qw_self (g := qg r0 n) hn hok2 (qo_w hok2)
  have eL : (qwk (qg r0 n) set r0 k).1 (17 + 10 * qo (qg r0 n) k + 2) = qL (qg r0 n) (qo (qg r0 n) k) := congrFun (congrArg (fun z : qG => z.2.1) i1) _
  have eR : (qwk (qg r0 n) set r0 k).1 (17 + 10 * qo (qg r0 n) k + 3) = qR (qg r0 n) (qo (qg r0 n) k) := congrFun (congrArg (fun z : qG => z.2.2.1) i1) _
  have hps : ∀ c, c < n → (0 < (qwk (qg r0 n) set r0 k).1 (17 + 10 * c + 5) ↔ (qwk (qg r0 n) set r0 k).1 (17 + 10 * c + 5) ≠ 0) := by
    intro c hc
    obtain ⟨u, hu, -, hv⟩ := i4
    obtain ⟨w, hw2, hv2⟩ := hv c hc
    exact qver_pos (B := B + k) (by omega) (by omega) hv2
  have hso : ∀ x, (x = qL (qg r0 n) (qo (qg r0 n) k) ∨ x = qR (qg r0 n) (qo (qg r0 n) k)) → qt set (qo (qg r0 n) k) = true → zSo (qg r0 n) (qwk (qg r0 n) set r0 k).1 (qo (qg r0 n) k) x := by
    intro x hx hs hl
    have hs1 : qsrc (qg r0 n) x < 12 := by
      rcases hx with rfl | rfl
      · exact hw.1 hl
      · exact hw.2 hl
    have hsn : qsrc (qg r0 n) x < n := qsrc_lt (g := qg r0 n) hn hs1
    obtain ⟨i, hi, he⟩ := qo_dep (g := qg r0 n) hn hok2 hx hs1
    have h2 := hcl (qo (qg r0 n) k) (qsrc (qg r0 n) x) hok2 (by rcases hx with rfl | rfl; exact Or.inl rfl; exact Or.inr rfl) hs1 hs
    have h3 : (qwk (qg r0 n) set r0 k).2 (qsrc (qg r0 n) x) = true := by
      rw [← he] at h2 ⊢
      exact i7 i hi h2
    rw [← i9] at h3
    obtain ⟨f, hf⟩ := qfr_fn k h3
    unfold qfn at hf
    simp only [Bool.and_eq_true, decide_eq_true_eq] at hf
    have h5 := (hps _ hsn).mp hf.1
    refine ⟨hs1, ?_, h5, ((i5 _ hsn).2.2.2 h5).1⟩
    rcases hx with rfl | rfl
    · exact hself.1
    · exact hself.2
  refine ⟨i1, i5 _ hok, hps _ hok, ?_, fun hs => ⟨⟨j0, by omega, i6⟩, hso _ (Or.inl eL) hs, hso _ (Or.inr eR) hs⟩⟩
  cases e : (qwk (qg r0 n) set r0 k).2 (qo (qg r0 n) k)
  · rfl
  · obtain ⟨j, hj, he⟩ := i8 _ e
    exact absurd he (qo_ne (g := qg r0 n) hn hj hok2)
theorem qwk_0 {g : qG} {r0 : Nat → Int32} {set : Int32} (hs : ∀ j, j < qm g → qt set (qo g j) = false) : ∀ k, k ≤ qm g → qwk g set r0 k = (r0, qfr g r0 k)
  | 0, _ => rfl
  | k + 1, hk => by
    have ih := qwk_0 (r0 := r0) hs k (by omega)
    by_cases hf : qfn g r0 (qfr g r0 k) (qo g k) = true
    · rw [qwk_f (by rw [ih]; exact hf), ih]
      show (r0, qub (qfr g r0 k) (qo g k) true) = (r0, qub (qfr g r0 k) (qo g k) (qfn g r0 (qfr g r0 k) (qo g k)))
      rw [hf]
    · rw [qwk_n (by rw [ih]; exact hf) (by rw [hs k (by omega)]; exact Bool.false_ne_true), ih]
      show (r0, qub (qfr g r0 k) (qo g k) false) = (r0, qub (qfr g r0 k) (qo g k) (qfn g r0 (qfr g r0 k) (qo g k)))
      rw [show qfn g r0 (qfr g r0 k) (qo g k) = false by cases e : qfn g r0 (qfr g r0 k) (qo g k); rfl; exact absurd e hf]
theorem qfr_in {g : qG} {r : Nat → Int32} {s : Nat} : ∀ k, qfr g r k s = true → ∃ j, j < k ∧ qo g j = s
  | 0, h => absurd h Bool.false_ne_true
  | k + 1, h => by
    have h2 : qub (qfr g r k) (qo g k) (qfn g r (qfr g r k) (qo g k)) s = true := h
    unfold qub at h2
    split at h2
    · rename_i e
      exact ⟨k, by omega, e.symm⟩
    · obtain ⟨j, hj, he⟩ := qfr_in k h2
      exact ⟨j, by omega, he⟩
theorem zqo {g : qG} (hn : qn g ≤ 12) {j : Nat} (hj : j < qm g) : qo g j < 32 := by
  have := qm_lt hj
  omega
theorem zWk_0 {r0 : Nat → Int32} {n B : Nat} (hn : n ≤ 12) (hB : B < 2 ^ 31) (h : qRI r0 n B) : zWk (qg r0 n) r0 0 := by
  intro k hk
  have hok : qo (qg r0 n) k < n := qm_lt hk
  rw [qwk_0 (fun j hj => qt_0 _ (zqo (g := qg r0 n) hn hj)) k (by omega)]
  refine ⟨rfl, h.2.2.2.2.2 _ hok, ?_, ?_, fun hs => ?_⟩
  · obtain ⟨u, hu, -, hv⟩ := h.2.2.2.1
    obtain ⟨w, hw2, hv2⟩ := hv _ hok
    exact qver_pos (B := B) hB (by omega) hv2
  · show qfr (qg r0 n) r0 k (qo (qg r0 n) k) = false
    cases e : qfr (qg r0 n) r0 k (qo (qg r0 n) k)
    · rfl
    · obtain ⟨j, hj, he⟩ := qfr_in k e
      exact absurd he (qo_ne (g := qg r0 n) hn hj hok)
  · rw [qt_0 _ (zqo (g := qg r0 n) hn hk)] at hs
    exact absurd hs Bool.false_ne_true
theorem qrt_0 {r0 : Nat → Int32} {n : Nat} (hn : n ≤ 12) : qrt r0 n 0 = r0 := by
  unfold qrt
  rw [qwk_0 (fun j hj => qt_0 _ (zqo (g := qg r0 n) hn hj)) _ (Nat.le_refl _)]
theorem zE_0 {r0 : Nat → Int32} {n : Nat} (hn : n ≤ 12) : qg (qrt r0 n 0) n = qg r0 n ∧ qF (qg r0 n) (qrt r0 n 0) = (qwk (qg r0 n) 0 r0 (qm (qg r0 n))).2 := by
  rw [qrt_0 hn, qwk_0 (fun j hj => qt_0 _ (zqo (g := qg r0 n) hn hj)) _ (Nat.le_refl _)]
  exact ⟨rfl, rfl⟩
