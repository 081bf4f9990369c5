/-! ===== the start: what the tables say of the classes ===== -/
theorem gB_start {s : State} {args : Array Value} (hts : ∀ w ∈ lw_tbl, w.before args s = true) : ∃ (D : va_G) (a b c d : ClassId), gB (fun _ => 0, fun _ _ => 0, D, a, b, c, d) s := by
  have hwl : ∀ w ∈ wsL_law, w.before args s = true := fun w h => hts w (wsL_law_in w h)
  obtain ⟨c0, i0, k0⟩ := u_known (C := RX0) (T := TX0) (N := 9) hwl inlX0 (hwl _ wa_RX0)
  obtain ⟨c1, i1, k1⟩ := u_known (C := RX1) (T := TX1) (N := 7) hwl inlX1 (hwl _ wa_RX1)
  obtain ⟨c2, i2, k2⟩ := u_known (C := RX2) (T := TX2) (N := 7) hwl inlX2 (hwl _ wa_RX2)
  obtain ⟨c3, i3, k3⟩ := u_known (C := RX3) (T := TX3) (N := 6) hwl inlX3 (hwl _ wa_RX3)
  obtain ⟨c4, i4, k4⟩ := u_known (C := RX4) (T := TX4) (N := 12) hwl inlX4 (hwl _ wa_RX4)
  obtain ⟨ta, ka, pa, fa, ga, ha⟩ := Cond.arrayClass_spec (hwl _ wr__int)
  obtain ⟨tb, kb, pb, fb, gb, hb⟩ := Cond.arrayClass_spec (hwl _ wr__boolean)
  have o0 : va_AO RX0 s := hts (.arrayOver (.object RX0)) (by decide +kernel)
  have o2 : va_AO RX2 s := hts (.arrayOver (.object RX2)) (by decide +kernel)
  obtain ⟨pc, tc, kc, u1, -, u3, u4, u5⟩ := Cond.arrayOver_spec o0
  obtain ⟨pd, td, kd, v1, -, v3, v4, v5⟩ := Cond.arrayOver_spec o2
  refine ⟨(fun i => if i = 0 then c0 else if i = 1 then c1 else if i = 2 then c2 else if i = 3 then c3 else c4, fun i => if i = 0 then i0 else if i = 1 then i1 else if i = 2 then i2 else if i = 3 then i3 else i4), ta, tb, tc, td, ⟨fun i q hq => ?_, fun i q hq => ?_⟩, fun w hw => ?_, o0, o2⟩
  · have hi : i < 5 := (List.getElem?_eq_some_iff.mp hq).1
    rcases (show i = 0 ∨ i = 1 ∨ i = 2 ∨ i = 3 ∨ i = 4 by omega) with rfl | rfl | rfl | rfl | rfl <;> cases hq
    · exact k0
    · exact k1
    · exact k2
    · exact k3
    · exact k4
  · have hi : i < 4 := (List.getElem?_eq_some_iff.mp hq).1
    rcases (show i = 0 ∨ i = 1 ∨ i = 2 ∨ i = 3 by omega) with rfl | rfl | rfl | rfl <;> cases hq
    · exact ⟨fun n z => ⟨(fun k h => by cases h), ka, ga, pa, ha⟩, fa⟩
    · exact ⟨fun n z => ⟨(fun k h => by cases h), kb, gb, pb, hb⟩, fb⟩
    · exact ⟨fun n z => ⟨(fun k h => by cases h), kc, u3, pc, u4⟩, kc, pc, u3, u4, u1, u5⟩
    · exact ⟨fun n z => ⟨(fun k h => by cases h), kd, v3, pd, v4⟩, kd, pd, v3, v4, v1, v5⟩
  · simp only [gNest, List.mem_cons, List.not_mem_nil, or_false] at hw
    rcases hw with rfl | rfl | rfl | rfl
    · exact hts (.methodLinkNest RX1 72 yX3_isVariable "ReactiveNotebook") (by decide +kernel)
    · exact hts (.methodLinkNest RX1 59 yX3_isVariableOperand "ReactiveNotebook") (by decide +kernel)
    · exact hts (.methodLinkNest RX1 88 yX3_contains "ReactiveNotebook") (by decide +kernel)
    · exact hts (.methodLinkNest RX2 37 yX0_init "ReactiveNotebook") (by decide +kernel)
/-! ===== where the two sides lie ===== -/
/-- the role of place j of a state's block -/
def yb (j : Nat) : Nat := if j = 0 then 11 else if j = 1 then 12 else if j = 2 then 13 else 14
/-- the role of place d of the notebook -/
def yr (d : Nat) : Nat := if d = 0 then 1 else if d < 16 then yb (d - 1) else if d = 16 then 3 else if d = 17 then 4 else if d = 18 then 2 else if d < 25 then d - 14 else if d < 85 then yb ((d - 25) % 15) else 0
/-- the block that place d belongs to -/
def yo (d : Nat) : Nat := if d < 16 then 1 else 25 + 15 * ((d - 25) / 15)
def yf (d k : Nat) : Nat := if k = 20 then yo d else if d = 0 then (if k = 0 then 1 else if k = 1 then 16 else if k = 3 then 17 else 18) else if d = 18 then 19 + k else if k = 0 then d + 1 else d + 2
def yg (d k : Nat) : Nat := if d = 16 then 25 + 15 * k else d + 2 + k
def Yc (N : Nat) (Z : va_G × ClassId × ClassId × ClassId × ClassId) : gL := (fun a => if a < N then 0 else yr (a - N), fun a k => N + yf (a - N) k, Z)
def σc (N : Nat) : gS := (fun a _ => if a = N + 20 then -1 else 0, fun a k => N + yg (a - N) k, fun _ => 0)
/-- the role of place d of the model -/
def xr (d : Nat) : Nat := if d < 10 then 15 + d else 0
def xf (k : Nat) : Nat := if k = 0 then 1 else if k = 1 then 2 else if k = 3 then 3 else if k = 4 then 4 else if k = 5 then 5 else if k = 6 then 6 else if k = 7 then 7 else if k = 9 then 8 else 9
def Ym (N : Nat) (Z : va_G × ClassId × ClassId × ClassId × ClassId) : gL := (fun a => if a < N then 0 else xr (a - N), fun _ k => N + xf k, Z)
def σm : gS := (fun _ _ => 0, fun _ _ => 0, fun _ => 0)
section YY
variable {N : Nat} {Z : va_G × ClassId × ClassId × ClassId × ClassId}
theorem yK (d : Nat) : gK (Yc N Z) (N + d) = yr d := by
  show (if N + d < N then 0 else yr (N + d - N)) = yr d
  rw [if_neg (by omega), Nat.add_sub_cancel_left]
theorem yK0 : gK (Yc N Z) N = 1 := yK 0
theorem yF (d k : Nat) : gF (Yc N Z) (N + d) k = N + yf d k := by
  show N + yf (N + d - N) k = _
  rw [Nat.add_sub_cancel_left]
theorem yF0 (k : Nat) : gF (Yc N Z) N k = N + yf 0 k := yF 0 k
theorem yG (d k : Nat) : (σc N).2.1 (N + d) k = N + yg d k := by
  show N + yg (N + d - N) k = _
  rw [Nat.add_sub_cancel_left]
theorem yr_85 {d : Nat} (h : 85 ≤ d) : yr d = 0 := by
  unfold yr
  rw [if_neg (by omega), if_neg (by omega), if_neg (by omega), if_neg (by omega), if_neg (by omega), if_neg (by omega), if_neg (by omega)]
theorem yS1 : ∀ d, d < 85 → yr d = 11 → yr (yf d 0) = 12 ∧ yr (yf d 5) = 13 ∧ yo d = d ∧ yo (yf d 5) = d ∧ yo (yf d 0) = d := by decide +kernel
theorem yS2 : ∀ d, d < 85 → yr d = 11 → ∀ i, i < 12 → yr (yg (yf d 0) i) = 14 ∧ yo (yg (yf d 0) i) = d ∧ yg (yf d 0) i = d + 3 + i := by decide +kernel
theorem yS3 : ∀ k, k < 4 → yr (yg 16 k) = 11 ∧ yg 16 k ≠ 1 ∧ yg 16 k = 25 + 15 * k := by decide +kernel
/-- what has a role lies at one of the places -/
theorem yat {a k : Nat} (h : gK (Yc N Z) a = k) (hk : k ≠ 0) : ∃ d, d < 85 ∧ a = N + d ∧ yr d = k := by
  have h1 : N ≤ a := by
    rcases Nat.lt_or_ge a N with q | q
    · exfalso
      apply hk
      rw [← h]
      exact if_pos q
    · exact q
  obtain ⟨d, rfl⟩ : ∃ d, a = N + d := ⟨a - N, by omega⟩
  rw [yK] at h
  refine ⟨d, ?_, rfl, h⟩
  rcases Nat.lt_or_ge d 85 with q | q
  · exact q
  · rw [yr_85 q] at h
    exact absurd h.symm hk
theorem yLS : zLS (Yc N Z) := by
  intro t ht
  obtain ⟨d, hd, rfl, hr⟩ := yat ht (by decide)
  obtain ⟨s1, s2, s3, s4, s5⟩ := yS1 d hd hr
  refine ⟨?_, ?_, ?_, ?_, ?_⟩
  · rw [yF, yK]; exact s1
  · rw [yF, yK]; exact s2
  · show gF (Yc N Z) (N + d) 20 = N + d
    rw [yF]
    show N + yo d = N + d
    rw [s3]
  · show gF (Yc N Z) (gF (Yc N Z) (N + d) 5) 20 = N + d
    rw [yF, yF]
    show N + yo (yf d 5) = N + d
    rw [s4]
  · show gF (Yc N Z) (gF (Yc N Z) (N + d) 0) 20 = N + d
    rw [yF, yF]
    show N + yo (yf d 0) = N + d
    rw [s5]
theorem yLC : zLC (Yc N Z) N := by
  refine ⟨yK0, ?_, ?_, ?_, ⟨?_, ?_, ?_, ?_, ?_, ?_, ?_⟩, yLS⟩
  · rw [yF0, yK]; rfl
  · rw [yF0, yK]; rfl
  · rw [yF0, yK]; rfl
  · rw [yF0, yK]; rfl
  all_goals (rw [yF0, yF, yK]; rfl)
theorem yRf : zRf (Yc N Z) N (σc N).2.1 := by
  refine ⟨fun t ht i hi => ?_, fun k hk => ?_⟩
  · obtain ⟨d, hd, rfl, hr⟩ := yat ht (by decide)
    obtain ⟨s1, s2, s3⟩ := yS2 d hd hr i hi
    rw [yF, yG]
    refine ⟨by rw [yK]; exact s1, ?_, fun j hj he => ?_⟩
    · show gF (Yc N Z) (N + yg (yf d 0) i) 20 = N + d
      rw [yF]
      show N + yo (yg (yf d 0) i) = N + d
      rw [s2]
    · rw [yG, s3, (yS2 d hd hr j hj).2.2] at he
      omega
  · obtain ⟨s1, s2, s3⟩ := yS3 k hk
    rw [yF0, yF0]
    show gK (Yc N Z) ((σc N).2.1 (N + 16) k) = 11 ∧ (σc N).2.1 (N + 16) k ≠ N + 1 ∧ ∀ j, j < 4 → (σc N).2.1 (N + 16) k = (σc N).2.1 (N + 16) j → k = j
    rw [yG, yK]
    refine ⟨s1, by omega, fun j hj he => ?_⟩
    rw [yG, s3, (yS3 j hj).2.2] at he
    omega
theorem qonl_0 : qonl 0 = 12 := qonl_none (fun c hc h => qb_ne0 (by omega) h.symm)
/-- the state at the start -/
def a0 : qA := (fun _ => 0, 0, fun _ _ => 0, 0, fun _ => 0)
theorem a0_I : qAI a0 0 := ⟨⟨rfl, by decide, Or.inl rfl, ⟨0, by omega, rfl, fun c hc => absurd hc (Nat.not_lt_zero c)⟩, ⟨0, by omega, rfl⟩, fun c hc => absurd hc (Nat.not_lt_zero c)⟩, by decide, fun j hj => absurd hj (Nat.not_lt_zero j)⟩
theorem σc_0 {a : Nat} (h : a ≠ N + 20) (k : Nat) : (σc N).1 a k = 0 := if_neg h
theorem yA : zA (Yc N Z) N (σc N) a0 := by
  refine ⟨⟨yRf, ⟨by decide, σc_0 (by omega) 2, fun j hj => absurd hj (Nat.not_lt_zero j)⟩, ?_⟩, ⟨rfl, by decide, ?_, ?_, ?_, ?_, fun i hi => absurd hi (Nat.not_lt_zero i)⟩, ⟨0, by omega, rfl, ?_, fun j hj => absurd hj (Nat.not_lt_zero j)⟩, ⟨fun v hv => ?_, fun v hv => ?_, fun i hi => absurd hi (Nat.not_lt_zero i), fun i d hi => absurd hi (Nat.not_lt_zero i), fun i hi => absurd hi (Nat.not_lt_zero i), ?_, fun k hk => absurd hk (Nat.not_lt_zero k)⟩, ?_⟩
  · funext j
    rw [yF0]
    exact σc_0 (by show N + 17 ≠ _; omega) j
  · rw [yF0]; exact σc_0 (by show N + 1 ≠ _; omega) 1
  · rw [yF0]; exact σc_0 (by show N + 1 ≠ _; omega) 2
  · rw [yF0]; exact σc_0 (by show N + 1 ≠ _; omega) 3
  · rw [yF0]; exact σc_0 (by show N + 1 ≠ _; omega) 4
  · rw [yF0]; exact σc_0 (by show N + 1 ≠ _; omega) 6
  · rw [yF0, yF]
    exact σc_0 (by show N + 19 ≠ _; omega) v
  · rw [yF0, yF]
    show (if N + 20 = N + 20 then (-1 : Int32) else 0) = zk (qonl 0)
    rw [if_pos rfl, qonl_0]
    rfl
  · rw [yF0]; exact σc_0 (by show N + 18 ≠ _; omega) 6
  · rw [σc_0 (by omega) 5]
    exact zM_0
theorem xK (d : Nat) : gK (Ym N Z) (N + d) = xr d := by
  show (if N + d < N then 0 else xr (N + d - N)) = xr d
  rw [if_neg (by omega), Nat.add_sub_cancel_left]
theorem xLM : gLM (Ym N Z) N := by
  refine ⟨xK 0, ?_, ?_, ?_, ?_, ?_, ?_, ?_, ?_, ?_⟩
  all_goals exact xK _
theorem xA : gMA (Ym N Z) N σm a0 := ⟨⟨rfl, rfl, by decide⟩, ⟨by decide, rfl, fun j i hj => absurd hj (Nat.not_lt_zero j)⟩, rfl⟩
end YY
