/-! ===== the heap at the start, as the two sides' stores ===== -/
theorem arrV_ext {cI : ClassId} {N : Nat} {f g : Nat → Value} (h : ∀ j, j < N → f j = g j) : arrV cI N f = arrV cI N g := by
  unfold arrV
  have : (fun j : Fin N => f j.val) = (fun j : Fin N => g j.val) := funext fun j => h _ j.isLt
  rw [this]
theorem va_ext_i {D : va_G} {a n : Nat} {cA : ClassId} {f g : Nat → Int32} {H : Heap} (h : va_at D vwCl (a, .inl (cA, n, .inl f)) H) (he : ∀ j, j < n → f j = g j) : va_at D vwCl (a, .inl (cA, n, .inl g)) H := by
  have h2 : H[a]? = some (vp_cell cA (n, .inl f)) := h
  show H[a]? = some (vp_cell cA (n, .inl g))
  rw [h2, vp_cell_i, vp_cell_i, arrV_ext (fun j hj => by rw [he j hj])]
theorem va_ext_q {D : va_G} {a n : Nat} {cA : ClassId} {f g : Nat → Option Nat} {H : Heap} (h : va_at D vwCl (a, .inl (cA, n, .inr (.inr (.inr (.inr f))))) H) (he : ∀ j, j < n → f j = g j) : va_at D vwCl (a, .inl (cA, n, .inr (.inr (.inr (.inr g))))) H := by
  have h2 : H[a]? = some (vp_cell cA (n, .inr (.inr (.inr (.inr f))))) := h
  show H[a]? = some (vp_cell cA (n, .inr (.inr (.inr (.inr g)))))
  rw [h2, vp_cell_q, vp_cell_q, arrV_ext (fun j hj => by rw [he j hj])]
abbrev Y0 (Z : va_G × ClassId × ClassId × ClassId × ClassId) : gL := (fun _ => 0, fun _ _ => 0, Z)
section YP
variable {N : Nat} {Z : va_G × ClassId × ClassId × ClassId × ClassId} {X : mX} {H : Heap}
theorem yblk1 : ∀ o, (o = 1 ∨ o = 25 ∨ o = 40 ∨ o = 55 ∨ o = 70) → (∀ j, j < 15 → yr (o + j) = yb j) ∧ yf (o + 0) 0 = o + 1 ∧ yf (o + 0) 5 = o + 2 ∧ ∀ k, k < 12 → yg (o + 1) k = o + 3 + k := by
  intro o h
  rcases h with rfl | rfl | rfl | rfl | rfl <;> decide +kernel
theorem yblk (hP : mP (Y0 Z) X H) {o : Nat} (ho : o = 1 ∨ o = 25 ∨ o = 40 ∨ o = 55 ∨ o = 70) (hs : mSt (Y0 Z) X.1 (N + o)) {j : Nat} (hj : j < 15) {e : va_E} (he : gEnt (Yc N Z) (σc N) (N + (o + j)) = some e) : va_at (gD (Yc N Z)) vwCl (N + (o + j), e) H := by
  obtain ⟨b1, b2, b3, b4⟩ := yblk1 o ho
  obtain ⟨h1, ⟨f, h2, h3⟩, h4, h5⟩ := hs
  have s0 : (σc N).1 (N + (o + j)) = fun _ => 0 := funext (σc_0 (by omega))
  unfold gEnt at he
  rw [yK, b1 j hj, s0] at he
  rcases (show j = 0 ∨ j = 1 ∨ j = 2 ∨ 3 ≤ j by omega) with rfl | rfl | rfl | q
  · have he2 : some (Sum.inr (2, [Value.ref (gF (Yc N Z) (N + (o + 0)) 0), .int 0, .int 0, .int 0, .int 0, .ref (gF (Yc N Z) (N + (o + 0)) 5), .int 0])) = some e := he
    rw [yF, yF, b2, b3] at he2
    cases he2
    exact hP.2 _ _ h1
  · have he2 : some (Sum.inl (gTc (Yc N Z), 12, .inr (.inr (.inr (.inr (fun k => some ((σc N).2.1 (N + (o + 1)) k))))))) = some e := he
    cases he2
    refine va_ext_q (f := f) (hP.2 _ _ h2) (fun k hk => ?_)
    rw [h3 k hk, yG, b4 k hk]
    exact congrArg some (by omega)
  · have he2 : some (Sum.inl (gTi (Yc N Z), 12, .inl (fun _ => 0))) = some e := he
    cases he2
    exact hP.2 _ _ h4
  · have hb : yb j = 14 := by
      unfold yb
      rw [if_neg (by omega), if_neg (by omega), if_neg (by omega)]
    rw [hb] at he
    have he2 : some (Sum.inr (0, mZ9)) = some e := he
    cases he2
    have := hP.2 _ _ (h5 (j - 3) (by omega))
    rw [show N + o + 3 + (j - 3) = N + (o + j) by omega] at this
    exact this
theorem yP (hP : mP (Y0 Z) X H) (hN : mNb (Y0 Z) X.1 N) : gP (Yc N Z) (σc N) H := by
  intro a e he
  by_cases h0 : gK (Yc N Z) a = 0
  · unfold gEnt at he
    rw [h0] at he
    cases he
  obtain ⟨d, hd, rfl, hr⟩ := yat rfl h0
  obtain ⟨n1, n2, ⟨f, n3, n4⟩, n5, ⟨g1, ⟨f2, g2, g3⟩, ⟨f4, g4, g5⟩, g6⟩, n6⟩ := hN
  have bl : (∃ j, j < 15 ∧ d = 1 + j) → va_at (gD (Yc N Z)) vwCl (N + d, e) H := by
    rintro ⟨j, hj, rfl⟩
    exact yblk hP (Or.inl rfl) n2 hj he
  have bk : ∀ k, k < 4 → (∃ j, j < 15 ∧ d = 25 + 15 * k + j) → va_at (gD (Yc N Z)) vwCl (N + d, e) H := by
    rintro k hk ⟨j, hj, rfl⟩
    refine yblk (o := 25 + 15 * k) hP (by omega) ?_ hj he
    have := n6 k hk
    rw [show N + 25 + 15 * k = N + (25 + 15 * k) by omega] at this
    exact this
  rcases Nat.lt_or_ge d 16 with q | q
  · rcases Nat.eq_zero_or_pos d with rfl | q1
    · unfold gEnt at he
      rw [yK, show (σc N).1 (N + 0) = fun _ => 0 from funext (σc_0 (by omega))] at he
      have he2 : some (Sum.inr (3, [Value.ref (gF (Yc N Z) (N + 0) 0), .ref (gF (Yc N Z) (N + 0) 1), .int 0, .ref (gF (Yc N Z) (N + 0) 3), .ref (gF (Yc N Z) (N + 0) 4), .int 0])) = some e := he
      rw [yF, yF, yF, yF] at he2
      cases he2
      exact hP.2 _ _ n1
    · exact bl ⟨d - 1, by omega, by omega⟩
  rcases Nat.lt_or_ge d 25 with q2 | q2
  · unfold gEnt at he
    rw [yK] at he
    have sz : d ≠ 20 → (σc N).1 (N + d) = fun _ => 0 := fun z => funext (σc_0 (by omega))
    rcases (show d = 16 ∨ d = 17 ∨ d = 18 ∨ d = 19 ∨ d = 20 ∨ d = 21 ∨ d = 22 ∨ d = 23 ∨ d = 24 by omega) with rfl | rfl | rfl | rfl | rfl | rfl | rfl | rfl | rfl
    · have he2 : some (Sum.inl (gTs (Yc N Z), 4, .inr (.inr (.inr (.inr (fun k => some ((σc N).2.1 (N + 16) k))))))) = some e := he
      cases he2
      refine va_ext_q (f := f) (hP.2 _ _ n3) (fun k hk => ?_)
      rw [n4 k hk, yG]
      show some (N + 25 + 15 * k) = some (N + (25 + 15 * k))
      exact congrArg some (by omega)
    · rw [sz (by omega)] at he
      have he2 : some (Sum.inl (gTi (Yc N Z), 3, .inl (fun _ => 0))) = some e := he
      cases he2
      exact hP.2 _ _ n5
    · rw [sz (by omega)] at he
      have he2 : some (Sum.inr (1, [Value.ref (gF (Yc N Z) (N + 18) 0), .ref (gF (Yc N Z) (N + 18) 1), .ref (gF (Yc N Z) (N + 18) 2), .ref (gF (Yc N Z) (N + 18) 3), .ref (gF (Yc N Z) (N + 18) 4), .ref (gF (Yc N Z) (N + 18) 5), .int 0])) = some e := he
      rw [yF, yF, yF, yF, yF, yF] at he2
      cases he2
      exact hP.2 _ _ g1
    · rw [sz (by omega)] at he
      have he2 : some (Sum.inl (gTi (Yc N Z), 10, .inl (fun _ => 0))) = some e := he
      cases he2
      exact va_ext_i (f := f2) (hP.2 _ _ g2) g3
    · have s1 : (σc N).1 (N + 20) = fun _ => -1 := funext fun k => if_pos rfl
      rw [s1] at he
      have he2 : some (Sum.inl (gTi (Yc N Z), 10, .inl (fun _ => -1))) = some e := he
      cases he2
      exact va_ext_i (f := f4) (hP.2 _ _ g4) g5
    all_goals
      rw [sz (by omega)] at he
      have he2 : some (Sum.inl (gTi (Yc N Z), 12, .inl (fun _ => 0))) = some e := he
      cases he2
    · exact hP.2 _ _ (g6 0 (by omega))
    · exact hP.2 _ _ (g6 1 (by omega))
    · exact hP.2 _ _ (g6 2 (by omega))
    · exact hP.2 _ _ (g6 3 (by omega))
  · rcases Nat.lt_or_ge d 40 with q3 | q3
    · exact bk 0 (by omega) ⟨d - 25, by omega, by omega⟩
    rcases Nat.lt_or_ge d 55 with q4 | q4
    · exact bk 1 (by omega) ⟨d - 40, by omega, by omega⟩
    rcases Nat.lt_or_ge d 70 with q5 | q5
    · exact bk 2 (by omega) ⟨d - 55, by omega, by omega⟩
    · exact bk 3 (by omega) ⟨d - 70, by omega, by omega⟩
theorem xP (hP : mP (Y0 Z) X H) (hN : mMo (Y0 Z) X.1 N) : gP (Ym N Z) σm H := by
  intro a e he
  have h1 : N ≤ a := by
    rcases Nat.lt_or_ge a N with q | q
    · exfalso
      unfold gEnt at he
      rw [show gK (Ym N Z) a = 0 from if_pos q] at he
      cases he
    · exact q
  obtain ⟨d, rfl⟩ : ∃ d, a = N + d := ⟨a - N, by omega⟩
  unfold gEnt at he
  rw [xK] at he
  have hd : d < 10 := by
    rcases Nat.lt_or_ge d 10 with q | q
    · exact q
    · rw [show xr d = 0 from if_neg (by omega)] at he
      cases he
  obtain ⟨n0, n1, n2, n3, n4, n5, n6, n7, n8, n9⟩ := hN
  rcases (show d = 0 ∨ d = 1 ∨ d = 2 ∨ d = 3 ∨ d = 4 ∨ d = 5 ∨ d = 6 ∨ d = 7 ∨ d = 8 ∨ d = 9 by omega) with rfl | rfl | rfl | rfl | rfl | rfl | rfl | rfl | rfl | rfl <;> cases he
  · exact hP.2 _ _ n0
  · exact hP.2 _ _ n1
  · exact hP.2 _ _ n2
  · exact hP.2 _ _ n3
  · exact hP.2 _ _ n4
  · exact hP.2 _ _ n5
  · exact hP.2 _ _ n6
  · exact hP.2 _ _ n7
  · exact hP.2 _ _ n8
  · exact hP.2 _ _ n9
end YP
theorem mNb.keep {Y : gL} {M M' : Nat → Option va_E} {a : Nat} (h : mNb Y M a) (hk : ∀ b, a ≤ b → b < a + 85 → M' b = M b) : mNb Y M' a := by
  obtain ⟨n1, n2, ⟨f, n3, n4⟩, n5, n6, n7⟩ := h
  exact ⟨(hk _ (by omega) (by omega)).trans n1, n2.keep (fun b h1 h2 => hk b (by omega) (by omega)), ⟨f, (hk _ (by omega) (by omega)).trans n3, n4⟩, (hk _ (by omega) (by omega)).trans n5, n6.keep (fun b h1 h2 => hk b (by omega) (by omega)), fun j hj => (n7 j hj).keep (fun b h1 h2 => hk b (by omega) (by omega))⟩
