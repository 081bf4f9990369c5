/-! ===== rows for the library's maximum, minimum, absolute value ===== -/
section GRM
variable {p : Program} {l : Launch} {e : Env} {R : Room} {s : State} {m : MethodId} {args : Array Value} {below : List Frame} {meth : Method} {c : Code} {ck cn : Nat} {Q : State → Prop} {σ : gS} {pc pc' : Nat} {lv : List (Nat × Value)} {st st0 : List Value} {cc : ByteArray} {nL : Nat} {Y : gL} {own : String} {ret : Option FieldType}
def gLm (R : Room) (ck cn : Nat) (st : List Value) : Bool := Nat.ble 1 R.frames && (Nat.ble 21 R.locals && (Nat.ble ck R.cells && (Nat.ble cn R.slots && Nat.ble (st.map fun v => v.category).sum 8)))
theorem gLm_spec {R : Room} {ck cn : Nat} {st : List Value} (h : gLm R ck cn st = true) : 1 ≤ R.frames ∧ (st.map fun v => v.category).sum + 13 ≤ R.locals ∧ ck ≤ R.cells ∧ cn ≤ R.slots := by
  unfold gLm at h
  simp only [Bool.and_eq_true] at h
  have h1 := Nat.le_of_ble_eq_true h.1
  have h2 := Nat.le_of_ble_eq_true h.2.1
  have h3 := Nat.le_of_ble_eq_true h.2.2.1
  have h4 := Nat.le_of_ble_eq_true h.2.2.2.1
  have h5 := Nat.le_of_ble_eq_true h.2.2.2.2
  exact ⟨h1, by omega, h3, h4⟩
theorem gx_mmax (hC : gOK p s m args meth c Y cc nL own ret) {a b : Int32} {idx : Nat} (hlk : Cond.methodLink own idx Lib.Math.max.name ∈ wsL_law) (hR : gLm R ck cn st = true) (hdg : decode cc pc = .ok (.invokestatic idx, 3)) (hp : pc + 3 = pc') (kk : gW p l e R s m args below meth c (gP Y) (gA Y) ck cn Q σ pc' lv (.int (if a < b then b else a) :: st)) : gW p l e R s m args below meth c (gP Y) (gA Y) ck cn Q σ pc lv (.int b :: .int a :: st) := by
  subst hp
  obtain ⟨r1, r2, r3, r4⟩ := gLm_spec hR
  exact fun H locs ls h1 h2 h3 => va_mmax hC.1.1 hC.1.2.1 h3.1.symm hC.2.1 (hC.2.2.1 _ hlk) (hC.2.2.1 _ wt_Lib_Math_max_name) (hC.2.2.1 _ wn__java_lang_Math_) (hC.2.2.1 _ wc_Lib_Math_max_name) r1 r2 r3 r4 hdg (kk H locs ls h1 h2 h3)
theorem gx_mmin (hC : gOK p s m args meth c Y cc nL own ret) {a b : Int32} {idx : Nat} (hlk : Cond.methodLink own idx Lib.Math.min.name ∈ wsL_law) (hR : gLm R ck cn st = true) (hdg : decode cc pc = .ok (.invokestatic idx, 3)) (hp : pc + 3 = pc') (kk : gW p l e R s m args below meth c (gP Y) (gA Y) ck cn Q σ pc' lv (.int (if b < a then b else a) :: st)) : gW p l e R s m args below meth c (gP Y) (gA Y) ck cn Q σ pc lv (.int b :: .int a :: st) := by
  subst hp
  obtain ⟨r1, r2, r3, r4⟩ := gLm_spec hR
  exact fun H locs ls h1 h2 h3 => va_mmin hC.1.1 hC.1.2.1 h3.1.symm hC.2.1 (hC.2.2.1 _ hlk) (hC.2.2.1 _ wt_Lib_Math_min_name) (hC.2.2.1 _ wn__java_lang_Math_) (hC.2.2.1 _ wc_Lib_Math_min_name) r1 r2 r3 r4 hdg (kk H locs ls h1 h2 h3)
theorem gx_mabs (hC : gOK p s m args meth c Y cc nL own ret) {a : Int32} {idx : Nat} (hlk : Cond.methodLink own idx Lib.Math.abs.name ∈ wsL_law) (hR : gLm R ck cn st = true) (hdg : decode cc pc = .ok (.invokestatic idx, 3)) (hp : pc + 3 = pc') (kk : gW p l e R s m args below meth c (gP Y) (gA Y) ck cn Q σ pc' lv (.int (if 0 ≤ a then a else 0 - a) :: st)) : gW p l e R s m args below meth c (gP Y) (gA Y) ck cn Q σ pc lv (.int a :: st) := by
  subst hp
  obtain ⟨r1, r2, r3, r4⟩ := gLm_spec hR
  exact fun H locs ls h1 h2 h3 => va_mabs hC.1.1 hC.1.2.1 h3.1.symm hC.2.1 (hC.2.2.1 _ hlk) (hC.2.2.1 _ wt_Lib_Math_abs_name) (hC.2.2.1 _ wn__java_lang_Math_) (hC.2.2.1 _ wc_Lib_Math_abs_name) r1 r2 r3 r4 hdg (kk H locs ls h1 h2 h3)
end GRM
/-! ===== running a cell: results as the class writes them ===== -/
def zlim (x : Int32) : Int32 := if x < -9999 then 10006 else if 9999 < x then 10006 else x
def zcmb (op a b : Int32) : Int32 := if ¬ a < 10000 ∨ ¬ b < 10000 then 10005 else if op = 0 then zlim (a + b) else if op = 1 then zlim (a - b) else if op = 2 then zlim (a * b) else if op = 3 then (if b = 0 then 10007 else a / b) else if op = 4 then (if a < b then b else a) else (if b < a then b else a)
def zop (g : qG) (r : Nat → Int32) (x : Int32) : Int32 := if x < 100 then x else zenc (r (17 + 10 * qsrc g x + 4))
theorem i32lt {a b : Int32} : a < b ↔ a.toInt < b.toInt := Int32.lt_iff_toInt_lt
theorem zenc_lo {v : Int32} (h : ¬ 9999 < v) : zenc v = v := if_neg h
theorem zok_enc {v : Int32} (h : qrok v) : (9999 < v ∧ ¬ zenc v < 10000 ∧ zenc v ≠ 0) ∨ (¬ v < -9999 ∧ ¬ 9999 < v ∧ zenc v = v ∧ zenc v < 10000) := by
  rcases h with ⟨h1, h2⟩ | h | h | h
  · refine Or.inr ⟨h1, h2, zenc_lo h2, ?_⟩
    rw [zenc_lo h2]
    rw [i32lt] at h2 ⊢
    have e1 : (9999 : Int32).toInt = 9999 := by decide
    have e2 : (10000 : Int32).toInt = 10000 := by decide
    omega
  all_goals (subst h; left; decide)
theorem zenc_inj {u v : Int32} (hu : qrok u) (hv : qrok v) (h : zenc u = zenc v) : u = v := by
  rcases zok_enc hu with ⟨a1, a2, a3⟩ | ⟨a1, a2, a3, a4⟩
  · rcases zok_enc hv with ⟨b1, b2, b3⟩ | ⟨b1, b2, b3, b4⟩
    · unfold zenc at h
      rw [if_pos a1, if_pos b1] at h
      have := congrArg (· + 10000) h
      simpa [Int32.sub_add_cancel] using this
    · exact absurd b4 (by rw [← h]; exact a2)
  · rcases zok_enc hv with ⟨b1, b2, b3⟩ | ⟨b1, b2, b3, b4⟩
    · exact absurd a4 (by rw [h]; exact b2)
    · rw [← a3, ← b3, h]
theorem zdiv {a b : Int32} (h1 : ¬ a < -9999) (h2 : ¬ 9999 < a) : ¬ a / b < -9999 ∧ ¬ 9999 < a / b := by
  rw [i32lt, show (-9999 : Int32).toInt = -9999 by decide] at h1 ⊢
  rw [i32lt, show (9999 : Int32).toInt = 9999 by decide] at h2 ⊢
  have e3 := Int.natAbs_tdiv_le_natAbs a.toInt b.toInt
  rw [Int32.toInt_div]
  have e4 : (a.toInt.tdiv b.toInt).bmod (2 ^ 32) = a.toInt.tdiv b.toInt := by
    apply Int.bmod_eq_of_le <;> omega
  rw [e4]
  omega
/-- an operand's result, on both sides -/
theorem zop_ov {g : qG} {r : Nat → Int32} {y : Nat} (hy : y < 110) (h : ¬ nI y < 100 → qrok (r (17 + 10 * qsrc g (nI y) + 4))) : (¬ zop g r (nI y) < 10000 ∧ qov g r (nI y) = 20000) ∨ (zop g r (nI y) < 10000 ∧ zop g r (nI y) = qov g r (nI y) ∧ ¬ qov g r (nI y) < -9999 ∧ ¬ 9999 < qov g r (nI y) ∧ qov g r (nI y) ≠ 20000) := by
  unfold zop qov
  rcases Nat.lt_or_ge y 100 with q | q
  · right
    have this : nI y < 100 := nI_lt q (show (100 : Nat) < 2 ^ 31 by omega)
    rw [if_pos this, if_pos this]
    have e := nI_toInt (n := y) (by omega)
    refine ⟨?_, rfl, ?_, ?_, fun z => ?_⟩
    · rw [i32lt, e, show (10000 : Int32).toInt = 10000 by decide]; omega
    · rw [i32lt, e, show (-9999 : Int32).toInt = -9999 by decide]; omega
    · rw [i32lt, e, show (9999 : Int32).toInt = 9999 by decide]; omega
    · have := congrArg Int32.toInt z
      rw [e, show (20000 : Int32).toInt = 20000 by decide] at this
      omega
  · have hn : ¬ nI y < 100 := nI_nlt q (by omega)
    rw [if_neg hn, if_neg hn]
    rcases zok_enc (h hn) with ⟨a1, a2, -⟩ | ⟨a1, a2, a3, a4⟩
    · exact Or.inl ⟨a2, if_pos a1⟩
    · rw [if_neg a2]
      exact Or.inr ⟨a4, a3, a1, a2, fun z => a2 (by rw [z]; decide)⟩
theorem zlim_enc (x : Int32) : zlim x = zenc (if ¬ x < -9999 ∧ ¬ 9999 < x then x else 20006) := by
  unfold zlim
  by_cases h1 : x < -9999
  · rw [if_pos h1, if_neg (fun q => q.1 h1)]
    rfl
  · by_cases h2 : 9999 < x
    · rw [if_neg h1, if_pos h2, if_neg (fun q => q.2 h2)]
      rfl
    · rw [if_neg h1, if_neg h2, if_pos ⟨h1, h2⟩, zenc_lo h2]
/-- what a run finds -/
theorem zcmb_q {g : qG} {r : Nat → Int32} {i x y : Nat} (hx : x < 110) (hy : y < 110) (ex : r (17 + 10 * i + 2) = nI x) (ey : r (17 + 10 * i + 3) = nI y) (h2 : ¬ nI x < 100 → qrok (r (17 + 10 * qsrc g (nI x) + 4))) (h3 : ¬ nI y < 100 → qrok (r (17 + 10 * qsrc g (nI y) + 4))) : zcmb (r (17 + 10 * i + 1)) (zop g r (nI x)) (zop g r (nI y)) = zenc (qcmp g r i) := by
  unfold zcmb qcmp
  rw [ex, ey]
  rcases zop_ov hx h2 with ⟨a1, a2⟩ | ⟨a1, a2, a3, a4, a5⟩
  · rw [if_pos (Or.inl a1), if_pos (Or.inl a2)]
    rfl
  rcases zop_ov hy h3 with ⟨b1, b2⟩ | ⟨b1, b2, b3, b4, b5⟩
  · rw [if_pos (Or.inr b1), if_pos (Or.inr b2)]
    rfl
  rw [if_neg (by rintro (q | q); exact q a1; exact q b1), if_neg (show ¬ (qov g r (nI x) = 20000 ∨ qov g r (nI y) = 20000) by rintro (q | q); exact a5 q; exact b5 q), a2, b2]
  generalize qov g r (nI x) = a at *
  generalize qov g r (nI y) = b at *
  generalize r (17 + 10 * i + 1) = op at *
  unfold qex3
  by_cases o0 : op = 0
  · rw [if_pos o0, if_pos o0, if_neg (by rw [o0]; exact fun q => absurd q.1 (by decide))]
    exact zlim_enc _
  by_cases o1 : op = 1
  · rw [if_neg o0, if_neg o0, if_pos o1, if_pos o1, if_neg (by rw [o1]; exact fun q => absurd q.1 (by decide))]
    exact zlim_enc _
  by_cases o2 : op = 2
  · rw [if_neg o0, if_neg o0, if_neg o1, if_neg o1, if_pos o2, if_pos o2, if_neg (by rw [o2]; exact fun q => absurd q.1 (by decide))]
    exact zlim_enc _
  by_cases o3 : op = 3
  · rw [if_neg o0, if_neg o0, if_neg o1, if_neg o1, if_neg o2, if_neg o2, if_pos o3, if_pos o3]
    by_cases z : b = 0
    · rw [if_pos z, if_pos ⟨o3, z⟩]
      rfl
    · rw [if_neg z, if_neg (fun q => z q.2), if_pos (zdiv a3 a4), zenc_lo (zdiv a3 a4).2]
  rw [if_neg o0, if_neg o0, if_neg o1, if_neg o1, if_neg o2, if_neg o2, if_neg o3, if_neg o3, if_neg (show ¬ (op = 3 ∧ b = 0) from fun q => o3 q.1)]
  have lt : ∀ u v : Int32, u < v → ¬ v < u := fun u v q z => by rw [i32lt] at q z; omega
  have an : ∀ u v : Int32, ¬ u < v → ¬ v < u → u = v := fun u v q z => Int32.toInt_inj.mp (by rw [i32lt] at q z; omega)
  by_cases o4 : op = 4
  · rw [if_pos o4, if_pos o4]
    have e : (if a < b then b else a) = if b < a then a else b := by
      by_cases q : a < b
      · rw [if_pos q, if_neg (lt _ _ q)]
      · rw [if_neg q]
        by_cases z : b < a
        · rw [if_pos z]
        · rw [if_neg z, an _ _ q z]
    rw [← e]
    have e2 : ¬ (if a < b then b else a) < -9999 ∧ ¬ 9999 < (if a < b then b else a) := by split <;> exact ⟨by assumption, by assumption⟩
    rw [if_pos e2, zenc_lo e2.2]
  · rw [if_neg o4, if_neg o4]
    have e : (if b < a then b else a) = if a < b then a else b := by
      by_cases q : a < b
      · rw [if_pos q, if_neg (lt _ _ q)]
      · rw [if_neg q]
        by_cases z : b < a
        · rw [if_pos z]
        · rw [if_neg z, an _ _ q z]
    rw [← e]
    have e2 : ¬ (if b < a then b else a) < -9999 ∧ ¬ 9999 < (if b < a then b else a) := by split <;> exact ⟨by assumption, by assumption⟩
    rw [if_pos e2, zenc_lo e2.2]
theorem zcmb_e (op : Int32) {a b : Int32} (h : ¬ a < 10000 ∨ ¬ b < 10000) : zcmb op a b = 10005 := if_pos h
theorem zcmb_n (op : Int32) {a b : Int32} (ha : ¬ ¬ a < 10000) (hb : ¬ ¬ b < 10000) : zcmb op a b = if op = 0 then zlim (a + b) else if op = 1 then zlim (a - b) else if op = 2 then zlim (a * b) else if op = 3 then (if b = 0 then 10007 else a / b) else if op = 4 then (if a < b then b else a) else (if b < a then b else a) := if_neg (by rintro (q | q); exact ha q; exact hb q)
theorem zvo0 {g : qG} {r : Nat → Int32} {x : Int32} (hs : ¬ x < 100 → qsrc g x < 12) (h : qsrc g x = 12) : qvo g r x = 0 := if_pos (Classical.byContradiction fun q => absurd (hs q) (by omega))
theorem zvo1 {g : qG} {r : Nat → Int32} {x : Int32} (h : qsrc g x < 12) : qvo g r x = r (17 + 10 * qsrc g x + 5) := if_neg (fun q => absurd h (by unfold qsrc; rw [if_pos q]; decide))
theorem zop0 {g : qG} {r : Nat → Int32} {x : Int32} (hs : ¬ x < 100 → qsrc g x < 12) (h : qsrc g x = 12) : zop g r x = x := if_pos (Classical.byContradiction fun q => absurd (hs q) (by omega))
theorem zop1 {g : qG} {r : Nat → Int32} {x : Int32} (h : qsrc g x < 12) : zop g r x = zenc (r (17 + 10 * qsrc g x + 4)) := if_neg (fun q => absurd h (by unfold qsrc; rw [if_pos q]; decide))
