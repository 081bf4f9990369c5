theorem qonl_lt {g : qG} (hn : qn g ≤ 12) {x : Int32} (h : qonl (qdf g x) < 12) : qonl (qdf g x) < qn g := by
  have h2 := qonl_yes h
  have h3 : qt (qb (qonl (qdf g x))) (qonl (qdf g x)) = true := by
    rw [qt_qb (by omega) (by omega)]
    simp
  rw [← h2] at h3
  exact ((qdf_bit hn _ (by omega)).mp h3).1
/-- one bit, moved -/
theorem qbit_mv {A : Int32} {c k : Nat} : ((A >>> (nI c &&& 31)) &&& 1) <<< (nI k &&& 31) = if qt A c = true then qb k else 0 := by
  by_cases h : qt A c = true
  · rw [if_pos h, qt_iff.mpr h]
    rfl
  · rw [if_neg h]
    have h1 : (A >>> (nI c &&& 31)) &&& 1 = 0 := qt_iff0.mpr (by simpa using h)
    rw [h1]
    show (0 : Int32) <<< _ = 0
    simp
theorem qdpt_s {g : qG} {A : Int32} {n k i : Nat} (hn : n ≤ 12) (hk : k < n) (hi : i < n) (h : qt A i = qall g k i) : qdpt g i k ||| (((A >>> (nI i &&& 31)) &&& 1) <<< (nI k &&& 31)) = qdpt g i (k + 1) := by
  rw [qdpt, qbit_mv, h]
theorem qvof_y {g : qG} {r : Nat → Int32} {k : Nat} (h : k < 12) : qvof g r k = qval g r k := if_pos h
theorem qvof_n {g : qG} {r : Nat → Int32} {k : Nat} (h : k = 12) : qvof g r k = -10001 := if_neg (by omega)
