/-! what the walks of the graph's methods name -/
theorem zk_or {k : Nat} (h : k ≤ 12) : (nI k = zk k ∧ k < 12) ∨ (-1 = zk k ∧ k = 12) := by
  rcases Nat.lt_or_ge k 12 with q | q
  · exact Or.inl ⟨(zk_lt q).symm, q⟩
  · exact Or.inr ⟨(zk_12 (by omega)).symm, by omega⟩
theorem uI_if {σ : gS} {a x j : Nat} {v : Int32} : (uI σ a x v).1 a j = if j = x then v else σ.1 a j := by simp [uI]
theorem zfd0 {g : qG} {S : gS} {a i x : Nat} (hV : qV g i = nI x) (hx : x < 10) (h : ∀ v, v < 10 → S.1 a v = qdfn (qV g) (nI v) i) (v : Nat) (hv : v < 10) : (uI S a x (qdfn (qV g) (nI x) i ||| qb i)).1 a v = qdfn (qV g) (nI v) (i + 1) := by
  rw [uI_if, zdfn_s hV hx hv, h v hv]
  by_cases e : v = x
  · subst e; simp
  · rw [if_neg e, if_neg e]
theorem zfd1 {g : qG} {S : gS} {a i x : Nat} {w : Int32} (hV : qV g i = nI x) (hx : x < 10) (hw : w = zk (qonl (qdfn (qV g) (nI x) i ||| qb i))) (h : ∀ v, v < 10 → S.1 a v = zk (qonl (qdfn (qV g) (nI v) i))) (v : Nat) (hv : v < 10) : (uI S a x w).1 a v = zk (qonl (qdfn (qV g) (nI v) (i + 1))) := by
  rw [uI_if, zdfn_s hV hx hv, h v hv]
  by_cases e : v = x
  · subst e; simp [hw]
  · rw [if_neg e, if_neg e]
theorem zown2 {g : qG} {i v : Nat} (hV : qV g i = nI v) (hv : v < 10) (hi : i < 12) : qdf g (qV g i) = qb i ↔ qsrc g (nI (100 + v)) = i := by
  rw [hV, zs_hi (by omega) (by omega), show 100 + v - 100 = v by omega]
  exact ⟨fun h => qonl_at hi h, fun h => by have h2 := qonl_yes (s := qdf g (nI v)) (by omega); rw [h] at h2; exact h2⟩
theorem zqo_end {g : qG} {k : Nat} (hn : qn g ≤ 12) (hall : ∀ j, j < k → qo g j < qn g) (hk : qn g ≤ k) : qo g k = qn g := by
  rcases Nat.lt_or_ge (qo g k) (qn g) with q | q
  · have := qo_few hn (k := k + 1) (fun j hj => by
      rcases Nat.lt_or_ge j k with q2 | q2
      · exact hall j q2
      · rw [show j = k by omega]; exact q)
    omega
  · have := qo_le g k
    omega
theorem zno {x : Int32} {A B : Prop} (h : x ≠ 0 ↔ (A ∨ B)) (h0 : x = 0) : ¬ A ∧ ¬ B := ⟨fun q => h.mpr (Or.inl q) h0, fun q => h.mpr (Or.inr q) h0⟩
set_option maxRecDepth 100000 in
set_option maxHeartbeats 4000000 in
theorem c_X3_isVariableOperand (l : Launch) (Y : gL) (σ : gS) (y : Nat) (hy : y < 2 ^ 31) : gM l yX3_isVariableOperand cX3_isVariableOperand 1 (some .boolean) (gRm 0 0) Y [.int (nI y)] σ (gI fun z τ => σ = τ ∧ ((z = 1 ∧ (100 ≤ y ∧ y < 110)) ∨ (z = 0 ∧ ¬ (100 ≤ y ∧ y < 110)))) := by
  refine gM.of (by decide) rfl ?_
  intro p e s m args below meth c hC
  have hX := hC.1
  refine gx_iload_n hX 0 dX3_isVariableOperand_0 rfl rfl ?_
  refine gx_bipush (v := 100) hX dX3_isVariableOperand_1 rfl (by decide) ?_
  refine gx_nat_lt (i := y) (j := 100) (tgt := 16) hX dX3_isVariableOperand_3 (by decide) rfl rfl rfl (by omega) (by omega) (fun h3 => ?_) (fun h3 => ?_)
  · refine gx_iconst (v := 0) hX dX3_isVariableOperand_16 rfl (by decide) ?_
    exact gx_zret hC rfl dX3_isVariableOperand_17 (⟨rfl, Or.inr ⟨rfl, by omega⟩⟩)
  · refine gx_iload_n hX 0 dX3_isVariableOperand_6 rfl rfl ?_
    refine gx_bipush (v := 110) hX dX3_isVariableOperand_7 rfl (by decide) ?_
    refine gx_nat_ge (i := y) (j := 110) (tgt := 16) hX dX3_isVariableOperand_9 (by decide) rfl rfl rfl (by omega) (by omega) (fun h9 => ?_) (fun h9 => ?_)
    · refine gx_iconst (v := 0) hX dX3_isVariableOperand_16 rfl (by decide) ?_
      exact gx_zret hC rfl dX3_isVariableOperand_17 (⟨rfl, Or.inr ⟨rfl, by omega⟩⟩)
    · refine gx_iconst (v := 1) hX dX3_isVariableOperand_12 rfl (by decide) ?_
      refine gx_goto (pc' := 17) hX dX3_isVariableOperand_13 (by decide) ?_
      exact gx_zret hC rfl dX3_isVariableOperand_17 (⟨rfl, Or.inl ⟨rfl, by omega⟩⟩)

set_option maxRecDepth 100000 in
set_option maxHeartbeats 4000000 in
theorem c_X3_contains (l : Launch) (Y : gL) (σ : gS) (A : Int32) (k : Nat) (hk : k < 32) : gM l yX3_contains cX3_contains 2 (some .boolean) (gRm 0 0) Y [.int A, .int (nI k)] σ (gI fun z τ => σ = τ ∧ ((z = 1 ∧ qt A k = true) ∨ (z = 0 ∧ ¬ qt A k = true))) := by
  refine gM.of (by decide) rfl ?_
  intro p e s m args below meth c hC
  have hX := hC.1
  refine gx_iload_n hX 0 dX3_contains_0 rfl rfl ?_
  refine gx_iconst (v := 1) hX dX3_contains_1 rfl (by decide) ?_
  refine gx_iload_n hX 1 dX3_contains_2 rfl rfl ?_
  refine gx_ishl hX dX3_contains_3 rfl ?_
  refine gx_iand hX dX3_contains_4 rfl ?_
  refine gx_if_eq (tgt := 12) hX dX3_contains_5 (by decide) rfl (fun h5 => ?_) (fun h5 => ?_)
  · refine gx_iconst (v := 0) hX dX3_contains_12 rfl (by decide) ?_
    exact gx_zret hC rfl dX3_contains_13 (⟨rfl, Or.inr ⟨rfl, by rw [(qt_con hk).mp h5]; exact Bool.false_ne_true⟩⟩)
  · refine gx_iconst (v := 1) hX dX3_contains_8 rfl (by decide) ?_
    refine gx_goto (pc' := 13) hX dX3_contains_9 (by decide) ?_
    exact gx_zret hC rfl dX3_contains_13 (⟨rfl, Or.inl ⟨rfl, by cases e : qt A k; exact absurd ((qt_con hk).mpr e) h5; rfl⟩⟩)

set_option maxRecDepth 100000 in
set_option maxHeartbeats 4000000 in
theorem c_X3_isVariableN (l : Launch) (Y : gL) (σ : gS) (y : Nat) (hy : y < 2 ^ 31) : gM l yX3_isVariable cX3_isVariable 1 (some .boolean) (gRm 0 0) Y [.int (nI y)] σ (gI fun z τ => σ = τ ∧ ((z = 1 ∧ y < 10) ∨ (z = 0 ∧ ¬ y < 10))) := by
  refine gM.of (by decide) rfl ?_
  intro p e s m args below meth c hC
  have hX := hC.1
  refine gx_iload_n hX 0 dX3_isVariable_0 rfl rfl ?_
  refine gx_if_lt_f (tgt := 14) hX dX3_isVariable_1 (by decide) rfl (nI_pos hy) ?_
  refine gx_iload_n hX 0 dX3_isVariable_4 rfl rfl ?_
  refine gx_bipush (v := 10) hX dX3_isVariable_5 rfl (by decide) ?_
  refine gx_nat_ge (i := y) (j := 10) (tgt := 14) hX dX3_isVariable_7 (by decide) rfl rfl rfl (by omega) (by omega) (fun h7 => ?_) (fun h7 => ?_)
  · refine gx_iconst (v := 0) hX dX3_isVariable_14 rfl (by decide) ?_
    exact gx_zret hC rfl dX3_isVariable_15 (⟨rfl, Or.inr ⟨rfl, by omega⟩⟩)
  · refine gx_iconst (v := 1) hX dX3_isVariable_10 rfl (by decide) ?_
    refine gx_goto (pc' := 15) hX dX3_isVariable_11 (by decide) ?_
    exact gx_zret hC rfl dX3_isVariable_15 (⟨rfl, Or.inl ⟨rfl, by omega⟩⟩)

set_option maxRecDepth 100000 in
set_option maxHeartbeats 4000000 in
theorem c_X1_soleDefinerOf (l : Launch) (Y : gL) (go : Nat) (σ : gS) (g : qG) (hG : zLG Y go) (hn : qn g ≤ 12) (d1 : ∀ v, v < 10 → σ.1 (gF Y go 1) v = zk (qonl (qdf g (nI v)))) (y : Nat) (hy : y < 110) : gM l yX1_soleDefinerOf cX1_soleDefinerOf 2 (some .int) (gRm 1 20) Y [.ref go, .int (nI y)] σ (gI fun z τ => σ = τ ∧ ((nI (qsrc g (nI y)) = z ∧ (qsrc g (nI y)) < 12) ∨ (-1 = z ∧ (qsrc g (nI y)) = 12))) := by
  refine gM.of (by decide) rfl ?_
  intro p e s m args below meth c hC
  have hX := hC.1
  refine gx_iload_n hX 1 dX1_soleDefinerOf_0 rfl rfl ?_
  refine gx_callSN (As := [.int (nI y)]) (st := []) hC (c_X3_isVariableOperand l Y σ y (by omega)) kX3_isVariableOperand (by show Cond.methodLinkNest RX1 59 yX3_isVariableOperand "ReactiveNotebook" ∈ gNest; simp [gNest]) rfl rfl rfl rfl dX1_soleDefinerOf_1 rfl (gx_ki fun r1 τ1 hq1 => ?_)
  obtain ⟨rfl, ⟨rfl, hb1⟩ | ⟨rfl, hb1⟩⟩ := hq1
  · refine gx_if_eq_f (tgt := 19) hX dX1_soleDefinerOf_4 (by decide) rfl (by decide) ?_
    refine gx_aload_n hX 0 dX1_soleDefinerOf_7 rfl rfl ?_
    refine gx_get hC 1 inlX1 wf_RX1_15 rfl hG.1 rfl rfl rfl rfl dX1_soleDefinerOf_8 rfl ?_
    refine gx_iload_n hX 1 dX1_soleDefinerOf_11 rfl rfl ?_
    refine gx_bipush (v := 100) hX dX1_soleDefinerOf_12 rfl (by decide) ?_
    refine gx_isubN (i := y) (j := 100) hX dX1_soleDefinerOf_14 rfl rfl rfl (by omega) ?_
    refine gx_iald (i := y - 100) hC hG.2.2.1 rfl rfl (by omega) rfl dX1_soleDefinerOf_15 rfl ?_
    refine gx_goto (pc' := 20) hX dX1_soleDefinerOf_16 (by decide) ?_
    exact gx_iret hC dX1_soleDefinerOf_20 (⟨rfl, by rw [zs_hi hb1.1 hb1.2, d1 _ (by omega)]; exact zk_or (qonl_le _)⟩)
  · refine gx_if_eq_t (tgt := 19) hX dX1_soleDefinerOf_4 (by decide) (by decide) ?_
    refine gx_iconst (v := (-1)) hX dX1_soleDefinerOf_19 rfl (by decide) ?_
    exact gx_iret hC dX1_soleDefinerOf_20 (⟨rfl, Or.inr ⟨rfl, zs_lo (by omega)⟩⟩)

set_option maxRecDepth 100000 in
set_option maxHeartbeats 4000000 in
theorem c_X1_definersOf (l : Launch) (Y : gL) (go : Nat) (σ : gS) (g : qG) (hG : zLG Y go) (hn : qn g ≤ 12) (d0 : ∀ v, v < 10 → σ.1 (gF Y go 0) v = qdf g (nI v)) (y : Nat) (hy : y < 110) : gM l yX1_definersOf cX1_definersOf 2 (some .int) (gRm 1 20) Y [.ref go, .int (nI y)] σ (gI fun z τ => σ = τ ∧ qused g (nI y) = z) := by
  refine gM.of (by decide) rfl ?_
  intro p e s m args below meth c hC
  have hX := hC.1
  refine gx_iload_n hX 1 dX1_definersOf_0 rfl rfl ?_
  refine gx_callSN (As := [.int (nI y)]) (st := []) hC (c_X3_isVariableOperand l Y σ y (by omega)) kX3_isVariableOperand (by show Cond.methodLinkNest RX1 59 yX3_isVariableOperand "ReactiveNotebook" ∈ gNest; simp [gNest]) rfl rfl rfl rfl dX1_definersOf_1 rfl (gx_ki fun r1 τ1 hq1 => ?_)
  obtain ⟨rfl, ⟨rfl, hb1⟩ | ⟨rfl, hb1⟩⟩ := hq1
  · refine gx_if_eq_f (tgt := 19) hX dX1_definersOf_4 (by decide) rfl (by decide) ?_
    refine gx_aload_n hX 0 dX1_definersOf_7 rfl rfl ?_
    refine gx_get hC 0 inlX1 wf_RX1_9 rfl hG.1 rfl rfl rfl rfl dX1_definersOf_8 rfl ?_
    refine gx_iload_n hX 1 dX1_definersOf_11 rfl rfl ?_
    refine gx_bipush (v := 100) hX dX1_definersOf_12 rfl (by decide) ?_
    refine gx_isubN (i := y) (j := 100) hX dX1_definersOf_14 rfl rfl rfl (by omega) ?_
    refine gx_iald (i := y - 100) hC hG.2.1 rfl rfl (by omega) rfl dX1_definersOf_15 rfl ?_
    refine gx_goto (pc' := 20) hX dX1_definersOf_16 (by decide) ?_
    exact gx_iret hC dX1_definersOf_20 (⟨rfl, by rw [zu_hi hb1.1 hb1.2, d0 _ (by omega)]⟩)
  · refine gx_if_eq_t (tgt := 19) hX dX1_definersOf_4 (by decide) (by decide) ?_
    refine gx_iconst (v := 0) hX dX1_definersOf_19 rfl (by decide) ?_
    exact gx_iret hC dX1_definersOf_20 (⟨rfl, zu_lo (by omega)⟩)

set_option maxRecDepth 100000 in
set_option maxHeartbeats 4000000 in
theorem c_X1_dependencyOn (l : Launch) (Y : gL) (go : Nat) (σ : gS) (g : qG) (hG : zLG Y go) (hn : qn g ≤ 12) (d1 : ∀ v, v < 10 → σ.1 (gF Y go 1) v = zk (qonl (qdf g (nI v)))) (y : Nat) (hy : y < 110) : gM l yX1_dependencyOn cX1_dependencyOn 3 (some .int) (gRm 2 41) Y [.ref go, .int (nI y)] σ (gI fun z τ => σ = τ ∧ qdo g (nI y) = z) := by
  refine gM.of (by decide) rfl ?_
  intro p e s m args below meth c hC
  have hX := hC.1
  refine gx_aload_n hX 0 dX1_dependencyOn_0 rfl rfl ?_
  refine gx_iload_n hX 1 dX1_dependencyOn_1 rfl rfl ?_
  refine gx_callV (As := [.int (nI y)]) (st := []) hC (c_X1_soleDefinerOf l Y go σ g hG hn d1 y (by omega)) kX1_soleDefinerOf wm_RX1_85 rfl hG.1 rfl rfl rfl rfl rfl dX1_dependencyOn_2 rfl (gx_ki fun r2 τ2 hq2 => ?_)
  obtain ⟨rfl, ⟨rfl, hb2⟩ | ⟨rfl, hb2⟩⟩ := hq2
  · refine gx_istore_n (lv' := [(2, .int (nI (qsrc g (nI y)))), (0, .ref go), (1, .int (nI y))]) hX dX1_dependencyOn_5 rfl (by decide) rfl ?_
    refine gx_iload_n hX 0 dX1_dependencyOn_6 rfl rfl ?_
    refine gx_iconst (v := (-1)) hX dX1_dependencyOn_7 rfl (by decide) ?_
    refine gx_icmp_ne_t (tgt := 15) hX dX1_dependencyOn_8 (by decide) (nI_neg (by omega) (by decide)) ?_
    refine gx_iconst (v := 1) hX dX1_dependencyOn_15 rfl (by decide) ?_
    refine gx_iload_n hX 0 dX1_dependencyOn_16 rfl rfl ?_
    refine gx_ishl hX dX1_dependencyOn_17 rfl ?_
    exact gx_iret hC dX1_dependencyOn_18 (⟨rfl, qdo_yes hb2⟩)
  · refine gx_istore_n (lv' := [(2, .int (-1)), (0, .ref go), (1, .int (nI y))]) hX dX1_dependencyOn_5 rfl (by decide) rfl ?_
    refine gx_iload_n hX 0 dX1_dependencyOn_6 rfl rfl ?_
    refine gx_iconst (v := (-1)) hX dX1_dependencyOn_7 rfl (by decide) ?_
    refine gx_icmp_ne_f (tgt := 15) hX dX1_dependencyOn_8 (by decide) rfl (by decide) ?_
    refine gx_iconst (v := 0) hX dX1_dependencyOn_11 rfl (by decide) ?_
    refine gx_goto (pc' := 18) hX dX1_dependencyOn_12 (by decide) ?_
    exact gx_iret hC dX1_dependencyOn_18 (⟨rfl, qdo_no hb2⟩)

set_option maxRecDepth 100000 in
set_option maxHeartbeats 4000000 in
theorem c_X1_isUndefined (l : Launch) (Y : gL) (go : Nat) (σ : gS) (g : qG) (hG : zLG Y go) (hn : qn g ≤ 12) (d0 : ∀ v, v < 10 → σ.1 (gF Y go 0) v = qdf g (nI v)) (y : Nat) (hy : y < 110) : gM l yX1_isUndefined cX1_isUndefined 2 (some .boolean) (gRm 2 41) Y [.ref go, .int (nI y)] σ (gI fun z τ => σ = τ ∧ ((z = 1 ∧ qundB g (nI y) = true) ∨ (z = 0 ∧ ¬ qundB g (nI y) = true))) := by
  refine gM.of (by decide) rfl ?_
  intro p e s m args below meth c hC
  have hX := hC.1
  refine gx_iload_n hX 1 dX1_isUndefined_0 rfl rfl ?_
  refine gx_callSN (As := [.int (nI y)]) (st := []) hC (c_X3_isVariableOperand l Y σ y (by omega)) kX3_isVariableOperand (by show Cond.methodLinkNest RX1 59 yX3_isVariableOperand "ReactiveNotebook" ∈ gNest; simp [gNest]) rfl rfl rfl rfl dX1_isUndefined_1 rfl (gx_ki fun r1 τ1 hq1 => ?_)
  obtain ⟨rfl, ⟨rfl, hb1⟩ | ⟨rfl, hb1⟩⟩ := hq1
  · refine gx_if_eq_f (tgt := 19) hX dX1_isUndefined_4 (by decide) rfl (by decide) ?_
    refine gx_aload_n hX 0 dX1_isUndefined_7 rfl rfl ?_
    refine gx_iload_n hX 1 dX1_isUndefined_8 rfl rfl ?_
    refine gx_callV (As := [.int (nI y)]) (st := []) hC (c_X1_definersOf l Y go σ g hG hn d0 y (by omega)) kX1_definersOf wm_RX1_103 rfl hG.1 rfl rfl rfl rfl rfl dX1_isUndefined_9 rfl (gx_ki fun r9 τ9 hq9 => ?_)
    obtain ⟨rfl, rfl⟩ := hq9
    refine gx_if_ne (tgt := 19) hX dX1_isUndefined_12 (by decide) rfl (fun h12 => ?_) (fun h12 => ?_)
    · refine gx_iconst (v := 0) hX dX1_isUndefined_19 rfl (by decide) ?_
      exact gx_zret hC rfl dX1_isUndefined_20 (⟨rfl, Or.inr ⟨rfl, fun z => by have z2 := (zund hy).mp z; first | exact h12 z2.2 | omega⟩⟩)
    · refine gx_iconst (v := 1) hX dX1_isUndefined_15 rfl (by decide) ?_
      refine gx_goto (pc' := 20) hX dX1_isUndefined_16 (by decide) ?_
      exact gx_zret hC rfl dX1_isUndefined_20 (⟨rfl, Or.inl ⟨rfl, (zund hy).mpr ⟨hb1.1, h12⟩⟩⟩)
  · refine gx_if_eq_t (tgt := 19) hX dX1_isUndefined_4 (by decide) (by decide) ?_
    refine gx_iconst (v := 0) hX dX1_isUndefined_19 rfl (by decide) ?_
    exact gx_zret hC rfl dX1_isUndefined_20 (⟨rfl, Or.inr ⟨rfl, fun z => by have z2 := (zund hy).mp z; first | exact h12 z2.2 | omega⟩⟩)

set_option maxRecDepth 100000 in
set_option maxHeartbeats 4000000 in
theorem c_X1_clearDefiners (l : Launch) (Y : gL) (go : Nat) (σ : gS) (hG : zLG Y go) : gM l yX1_clearDefiners cX1_clearDefiners 2 none (gRm 0 0) Y [.ref go] σ (gV fun τ => gEq Y [5, 6] σ τ ∧ ∀ v, v < 10 → τ.1 (gF Y go 0) v = 0 ∧ τ.1 (gF Y go 1) v = -1) := by
  refine gM.of (by decide) rfl ?_
  intro p e s m args below meth c hC
  have hX := hC.1
  refine gx_iconst (v := 0) hX dX1_clearDefiners_0 rfl (by decide) ?_
  refine gx_istore_n (lv' := [(1, .int 0), (0, .ref go)]) hX dX1_clearDefiners_1 rfl (by decide) rfl ?_
  have L2 : ∀ (k2 : Nat) (i : Nat) (f : Nat → Nat → Int32), 10 - i < k2 → (i ≤ 10) → (gEq Y [5, 6] σ (f, σ.2)) → (∀ v, v < i → f (gF Y go 0) v = 0 ∧ f (gF Y go 1) v = -1) → gG p l e (gRm 0 0) s m args below meth c Y (gV fun τ => gEq Y [5, 6] σ τ ∧ ∀ v, v < 10 → τ.1 (gF Y go 0) v = 0 ∧ τ.1 (gF Y go 1) v = -1) (f, σ.2) 2 [(0, .ref go), (1, .int (nI i))] [] := by
    intro k2
    induction k2 with
    | zero => intro i f hk2; exact absurd hk2 (Nat.not_lt_zero _)
    | succ k2 ih2 =>
      intro i f hk2 hi he hz
      refine gx_iload_n hX 1 dX1_clearDefiners_2 rfl rfl ?_
      refine gx_bipush (v := 10) hX dX1_clearDefiners_3 rfl (by decide) ?_
      refine gx_nat_ge (i := i) (j := 10) (tgt := 28) hX dX1_clearDefiners_5 (by decide) rfl rfl rfl (by omega) (by omega) (fun h5 => ?_) (fun h5 => ?_)
      · exact gx_vret hC dX1_clearDefiners_28 (⟨he, fun v hv => hz v (by omega)⟩)
      · refine gx_aload_n hX 0 dX1_clearDefiners_8 rfl rfl ?_
        refine gx_get hC 0 inlX1 wf_RX1_9 rfl hG.1 rfl rfl rfl rfl dX1_clearDefiners_9 rfl ?_
        refine gx_iload_n hX 1 dX1_clearDefiners_12 rfl rfl ?_
        refine gx_iconst (v := 0) hX dX1_clearDefiners_13 rfl (by decide) ?_
        refine gx_iast (i := i) hC hG.2.1 rfl rfl rfl rfl (by omega) rfl dX1_clearDefiners_14 rfl ?_
        refine gx_aload_n hX 0 dX1_clearDefiners_15 rfl rfl ?_
        refine gx_get hC 1 inlX1 wf_RX1_15 rfl hG.1 rfl rfl rfl rfl dX1_clearDefiners_16 rfl ?_
        refine gx_iload_n hX 1 dX1_clearDefiners_19 rfl rfl ?_
        refine gx_iconst (v := (-1)) hX dX1_clearDefiners_20 rfl (by decide) ?_
        refine gx_iast (i := i) hC hG.2.2.1 rfl rfl rfl rfl (by omega) rfl dX1_clearDefiners_21 rfl ?_
        refine gx_iinc (w := (nI (i + 1))) (lv' := [(1, .int (nI (i + 1))), (0, .ref go)]) hX 1 dX1_clearDefiners_22 rfl rfl (nI_add _ _) (by decide) rfl ?_
        refine gx_goto (pc' := 2) hX dX1_clearDefiners_25 (by decide) ?_
        exact gx_sub [1, 0] rfl (ih2 (i + 1) (uI (uI (f, σ.2) (gF Y go 0) i 0) (gF Y go 1) i (-1)).1 (by omega) (by omega) ((he.put (hG.2.1) (by decide)).put (hG.2.2.1) (by decide)) (fun v hv => ⟨(congrFun (uI_ne (gK_ne (hG.2.1) (hG.2.2.1) (by decide))) v).trans (uI_rng (P := fun _ => 0) (fun v hv => (hz v hv).1) rfl v hv), uI_rng (P := fun _ => -1) (fun v hv => (congrFun (uI_ne (gK_ne (hG.2.2.1) (hG.2.1) (by decide))) v).trans (hz v hv).2) rfl v hv⟩))
  exact gx_sub [1, 0] rfl (L2 11 0 σ.1 (by omega) (by omega) gEq.rf (fun v hv => absurd hv (Nat.not_lt_zero v)))

set_option maxRecDepth 100000 in
set_option maxHeartbeats 4000000 in
theorem c_X1_findDefiners (l : Launch) (Y : gL) (go : Nat) (σ : gS) (g : qG) (hG : zLG Y go) (hn : qn g ≤ 12) (t : Nat) (hS : zLS Y) (ht : gK Y t = 11) (hc : zCs Y σ.2.1 t) (hD : zD Y σ t g) : gM l yX1_findDefiners cX1_findDefiners 4 none (gRm 1 21) Y [.ref go, .ref t] σ (gV fun τ => gEq Y [5, 6] σ τ ∧ (∀ v, v < 10 → τ.1 (gF Y go 0) v = qdf g (nI v)) ∧ (∀ v, v < 10 → τ.1 (gF Y go 1) v = zk (qonl (qdf g (nI v))))) := by
  refine gM.of (by decide) rfl ?_
  intro p e s m args below meth c hC
  have hX := hC.1
  refine gx_aload_n hX 0 dX1_findDefiners_0 rfl rfl ?_
  refine gx_callV (As := []) (st := []) hC (c_X1_clearDefiners l Y go σ hG) kX1_clearDefiners wm_RX1_34 rfl hG.1 rfl rfl rfl rfl rfl dX1_findDefiners_1 rfl (gx_kv fun τ1 hq1 => ?_)
  obtain ⟨f1, w1⟩ := τ1
  obtain rfl : w1 = σ.2 := hq1.1.1
  refine gx_iconst (v := 0) hX dX1_findDefiners_4 rfl (by decide) ?_
  refine gx_istore_n (lv' := [(2, .int 0), (0, .ref go), (1, .ref t)]) hX dX1_findDefiners_5 rfl (by decide) rfl ?_
  have L6 : ∀ (k6 : Nat) (i : Nat) (f : Nat → Nat → Int32), qn g - i < k6 → (i ≤ qn g) → (gEq Y [5, 6] σ (f, σ.2)) → (∀ v, v < 10 → f (gF Y go 0) v = qdfn (qV g) (nI v) i) → (∀ v, v < 10 → f (gF Y go 1) v = zk (qonl (qdfn (qV g) (nI v) i))) → gG p l e (gRm 1 21) s m args below meth c Y (gV fun τ => gEq Y [5, 6] σ τ ∧ (∀ v, v < 10 → τ.1 (gF Y go 0) v = qdf g (nI v)) ∧ (∀ v, v < 10 → τ.1 (gF Y go 1) v = zk (qonl (qdf g (nI v))))) (f, σ.2) 6 [(0, .ref go), (1, .ref t), (2, .int (nI i))] [] := by
    intro k6
    induction k6 with
    | zero => intro i f hk6; exact absurd hk6 (Nat.not_lt_zero _)
    | succ k6 ih6 =>
      intro i f hk6 hi he hz0 hz1
      have hDf := hD.eq ht hc he (by decide) (by decide)
      refine gx_iload_n hX 2 dX1_findDefiners_6 rfl rfl ?_
      refine gx_aload_n hX 1 dX1_findDefiners_7 rfl rfl ?_
      refine gx_get hC 1 inlX2 wf_RX1_44 rfl ht rfl rfl rfl rfl dX1_findDefiners_8 rfl ?_
      refine gx_topi (b := (nI (qn g))) hDf.2.1 ?_
      refine gx_nat_ge (i := i) (j := qn g) (tgt := 69) hX dX1_findDefiners_11 (by decide) rfl rfl rfl (by omega) (by omega) (fun h11 => ?_) (fun h11 => ?_)
      · refine gx_vret hC dX1_findDefiners_69 ?_
        have hie : i = qn g := by omega
        rw [hie] at hz0 hz1
        exact ⟨he, hz0, hz1⟩
      · refine gx_aload_n hX 1 dX1_findDefiners_14 rfl rfl ?_
        refine gx_get hC 0 inlX2 wf_RX1_63 rfl ht rfl rfl rfl rfl dX1_findDefiners_15 rfl ?_
        refine gx_iload_n hX 2 dX1_findDefiners_18 rfl rfl ?_
        refine gx_aaldc (i := i) hC ((hS t ht).1) rfl rfl (by omega) rfl dX1_findDefiners_19 rfl ?_
        obtain ⟨x, hx, hVx⟩ := (hDf.2.2 i h11).2.1
        refine gx_get hC 0 inlX0 wf_RX1_67 rfl ((hc i (by omega)).1) rfl rfl rfl rfl dX1_findDefiners_20 rfl ?_
        refine gx_topi (b := (nI x)) ((hDf.2.2 i h11).1.1.trans hVx) ?_
        refine gx_istore_n (lv' := [(3, .int (nI x)), (0, .ref go), (1, .ref t), (2, .int (nI i))]) hX dX1_findDefiners_23 rfl (by decide) rfl ?_
        refine gx_iload_n hX 0 dX1_findDefiners_24 rfl rfl ?_
        refine gx_callSN (As := [.int (nI x)]) (st := []) hC (c_X3_isVariableN l Y (f, σ.2) x (by omega)) kX3_isVariable (by show Cond.methodLinkNest RX1 72 yX3_isVariable "ReactiveNotebook" ∈ gNest; simp [gNest]) rfl rfl rfl rfl dX1_findDefiners_25 rfl (gx_ki fun r25 τ25 hq25 => ?_)
        obtain ⟨rfl, ⟨rfl, hb25⟩ | ⟨rfl, hb25⟩⟩ := hq25
        · refine gx_if_eq_f (tgt := 63) hX dX1_findDefiners_28 (by decide) rfl (by decide) ?_
          refine gx_aload_n hX 1 dX1_findDefiners_31 rfl rfl ?_
          refine gx_get hC 1 inlX1 wf_RX1_15 rfl hG.1 rfl rfl rfl rfl dX1_findDefiners_32 rfl ?_
          refine gx_iload_n hX 0 dX1_findDefiners_35 rfl rfl ?_
          refine gx_aload_n hX 1 dX1_findDefiners_36 rfl rfl ?_
          refine gx_get hC 0 inlX1 wf_RX1_9 rfl hG.1 rfl rfl rfl rfl dX1_findDefiners_37 rfl ?_
          refine gx_iload_n hX 0 dX1_findDefiners_40 rfl rfl ?_
          refine gx_iald (i := x) hC hG.2.1 rfl rfl (by omega) rfl dX1_findDefiners_41 rfl ?_
          refine gx_topi (b := (qdfn (qV g) (nI x) i)) (hz0 x hx) ?_
          refine gx_if_ne (tgt := 49) hX dX1_findDefiners_42 (by decide) rfl (fun h42 => ?_) (fun h42 => ?_)
          · refine gx_iconst (v := (-1)) hX dX1_findDefiners_49 rfl (by decide) ?_
            refine gx_iast (i := x) hC hG.2.2.1 rfl rfl rfl rfl (by omega) rfl dX1_findDefiners_50 rfl ?_
            refine gx_aload_n hX 1 dX1_findDefiners_51 rfl rfl ?_
            refine gx_get hC 0 inlX1 wf_RX1_9 rfl hG.1 rfl rfl rfl rfl dX1_findDefiners_52 rfl ?_
            refine gx_iload_n hX 0 dX1_findDefiners_55 rfl rfl ?_
            refine gx_dup2 hX dX1_findDefiners_56 rfl rfl rfl ?_
            refine gx_iald (i := x) hC hG.2.1 rfl rfl (by omega) rfl dX1_findDefiners_57 rfl ?_
            refine gx_topi (b := (qdfn (qV g) (nI x) i)) (by rw [uI_ne (gK_ne (hG.2.1) (hG.2.2.1) (by decide))]; exact hz0 x hx) ?_
            refine gx_iconst (v := 1) hX dX1_findDefiners_58 rfl (by decide) ?_
            refine gx_iload_n hX 3 dX1_findDefiners_59 rfl rfl ?_
            refine gx_ishl hX dX1_findDefiners_60 rfl ?_
            refine gx_ior hX dX1_findDefiners_61 rfl ?_
            refine gx_topi (b := (qdfn (qV g) (nI x) i ||| qb i)) rfl ?_
            refine gx_iast (i := x) hC hG.2.1 rfl rfl rfl rfl (by omega) rfl dX1_findDefiners_62 rfl ?_
            refine gx_iinc (w := (nI (i + 1))) (lv' := [(2, .int (nI (i + 1))), (3, .int (nI x)), (0, .ref go), (1, .ref t)]) hX 3 dX1_findDefiners_63 rfl rfl (nI_add _ _) (by decide) rfl ?_
            refine gx_goto (pc' := 6) hX dX1_findDefiners_66 (by decide) ?_
            exact gx_sub [2, 3, 0] rfl (ih6 (i + 1) (uI (uI (f, σ.2) (gF Y go 1) x (-1)) (gF Y go 0) x (qdfn (qV g) (nI x) i ||| qb i)).1 (by omega) (by omega) ((he.put (hG.2.2.1) (by decide)).put (hG.2.1) (by decide)) (zfd0 hVx hx (fun v hv => by rw [uI_ne (gK_ne (hG.2.1) (hG.2.2.1) (by decide))]; exact hz0 v hv)) (fun v hv => by rw [uI_ne (gK_ne (hG.2.2.1) (hG.2.1) (by decide))]; exact zfd1 hVx hx (by first | exact zsole0 (by omega) h42 | exact zsole1 (by omega) h42) hz1 v hv))
          · refine gx_iload_n hX 3 dX1_findDefiners_45 rfl rfl ?_
            refine gx_goto (pc' := 50) hX dX1_findDefiners_46 (by decide) ?_
            refine gx_iast (i := x) hC hG.2.2.1 rfl rfl rfl rfl (by omega) rfl dX1_findDefiners_50 rfl ?_
            refine gx_aload_n hX 1 dX1_findDefiners_51 rfl rfl ?_
            refine gx_get hC 0 inlX1 wf_RX1_9 rfl hG.1 rfl rfl rfl rfl dX1_findDefiners_52 rfl ?_
            refine gx_iload_n hX 0 dX1_findDefiners_55 rfl rfl ?_
            refine gx_dup2 hX dX1_findDefiners_56 rfl rfl rfl ?_
            refine gx_iald (i := x) hC hG.2.1 rfl rfl (by omega) rfl dX1_findDefiners_57 rfl ?_
            refine gx_topi (b := (qdfn (qV g) (nI x) i)) (by rw [uI_ne (gK_ne (hG.2.1) (hG.2.2.1) (by decide))]; exact hz0 x hx) ?_
            refine gx_iconst (v := 1) hX dX1_findDefiners_58 rfl (by decide) ?_
            refine gx_iload_n hX 3 dX1_findDefiners_59 rfl rfl ?_
            refine gx_ishl hX dX1_findDefiners_60 rfl ?_
            refine gx_ior hX dX1_findDefiners_61 rfl ?_
            refine gx_topi (b := (qdfn (qV g) (nI x) i ||| qb i)) rfl ?_
            refine gx_iast (i := x) hC hG.2.1 rfl rfl rfl rfl (by omega) rfl dX1_findDefiners_62 rfl ?_
            refine gx_iinc (w := (nI (i + 1))) (lv' := [(2, .int (nI (i + 1))), (3, .int (nI x)), (0, .ref go), (1, .ref t)]) hX 3 dX1_findDefiners_63 rfl rfl (nI_add _ _) (by decide) rfl ?_
            refine gx_goto (pc' := 6) hX dX1_findDefiners_66 (by decide) ?_
            exact gx_sub [2, 3, 0] rfl (ih6 (i + 1) (uI (uI (f, σ.2) (gF Y go 1) x (nI i)) (gF Y go 0) x (qdfn (qV g) (nI x) i ||| qb i)).1 (by omega) (by omega) ((he.put (hG.2.2.1) (by decide)).put (hG.2.1) (by decide)) (zfd0 hVx hx (fun v hv => by rw [uI_ne (gK_ne (hG.2.1) (hG.2.2.1) (by decide))]; exact hz0 v hv)) (fun v hv => by rw [uI_ne (gK_ne (hG.2.2.1) (hG.2.1) (by decide))]; exact zfd1 hVx hx (by first | exact zsole0 (by omega) h42 | exact zsole1 (by omega) h42) hz1 v hv))
        · exact absurd hx hb25
  exact gx_sub [1, 2, 0] rfl (L6 (qn g + 1) 0 f1 (by omega) (by omega) hq1.1 (fun v hv => (hq1.2 v hv).1) (fun v hv => ((hq1.2 v hv).2).trans (zk_12 (qonl_none (fun j hj => (qb_ne0 (by omega)).symm))).symm))

set_option maxRecDepth 100000 in
set_option maxHeartbeats 4000000 in
theorem c_X1_findDependencies (l : Launch) (Y : gL) (go : Nat) (σ : gS) (g : qG) (hG : zLG Y go) (hn : qn g ≤ 12) (d1 : ∀ v, v < 10 → σ.1 (gF Y go 1) v = zk (qonl (qdf g (nI v)))) (t : Nat) (hS : zLS Y) (ht : gK Y t = 11) (hc : zCs Y σ.2.1 t) (hD : zD Y σ t g) : gM l yX1_findDependencies cX1_findDependencies 3 none (gRm 3 63) Y [.ref go, .ref t] σ (gV fun τ => gEq Y [7] σ τ ∧ ∀ i, i < qn g → τ.1 (gF Y go 2) i = qdir g i) := by
  refine gM.of (by decide) rfl ?_
  intro p e s m args below meth c hC
  have hX := hC.1
  refine gx_iconst (v := 0) hX dX1_findDependencies_0 rfl (by decide) ?_
  refine gx_istore_n (lv' := [(2, .int 0), (0, .ref go), (1, .ref t)]) hX dX1_findDependencies_1 rfl (by decide) rfl ?_
  have L2 : ∀ (k2 : Nat) (i : Nat) (f : Nat → Nat → Int32), qn g - i < k2 → (i ≤ qn g) → (gEq Y [7] σ (f, σ.2)) → (∀ i2, i2 < i → f (gF Y go 2) i2 = qdir g i2) → gG p l e (gRm 3 63) s m args below meth c Y (gV fun τ => gEq Y [7] σ τ ∧ ∀ i, i < qn g → τ.1 (gF Y go 2) i = qdir g i) (f, σ.2) 2 [(0, .ref go), (1, .ref t), (2, .int (nI i))] [] := by
    intro k2
    induction k2 with
    | zero => intro i f hk2; exact absurd hk2 (Nat.not_lt_zero _)
    | succ k2 ih2 =>
      intro i f hk2 hi he hz
      have hDf := hD.eq ht hc he (by decide) (by decide)
      have d1f : ∀ v, v < 10 → f (gF Y go 1) v = zk (qonl (qdf g (nI v))) := by rw [show f (gF Y go 1) = σ.1 (gF Y go 1) from he.at (hG.2.2.1) (by decide)]; exact d1
      refine gx_iload_n hX 2 dX1_findDependencies_2 rfl rfl ?_
      refine gx_aload_n hX 1 dX1_findDependencies_3 rfl rfl ?_
      refine gx_get hC 1 inlX2 wf_RX1_44 rfl ht rfl rfl rfl rfl dX1_findDependencies_4 rfl ?_
      refine gx_topi (b := (nI (qn g))) hDf.2.1 ?_
      refine gx_nat_ge (i := i) (j := qn g) (tgt := 49) hX dX1_findDependencies_7 (by decide) rfl rfl rfl (by omega) (by omega) (fun h7 => ?_) (fun h7 => ?_)
      · exact gx_vret hC dX1_findDependencies_49 (⟨he, fun i2 hi2 => hz i2 (by omega)⟩)
      · refine gx_aload_n hX 0 dX1_findDependencies_10 rfl rfl ?_
        refine gx_get hC 2 inlX1 wf_RX1_18 rfl hG.1 rfl rfl rfl rfl dX1_findDependencies_11 rfl ?_
        refine gx_iload_n hX 2 dX1_findDependencies_14 rfl rfl ?_
        refine gx_aload_n hX 0 dX1_findDependencies_15 rfl rfl ?_
        refine gx_aload_n hX 1 dX1_findDependencies_16 rfl rfl ?_
        refine gx_get hC 0 inlX2 wf_RX1_63 rfl ht rfl rfl rfl rfl dX1_findDependencies_17 rfl ?_
        refine gx_iload_n hX 2 dX1_findDependencies_20 rfl rfl ?_
        refine gx_aaldc (i := i) hC ((hS t ht).1) rfl rfl (by omega) rfl dX1_findDependencies_21 rfl ?_
        obtain ⟨x, hx, hopx⟩ := (hDf.2.2 i h7).2.2.1
        refine gx_get hC 2 inlX0 wf_RX1_75 rfl ((hc i (by omega)).1) rfl rfl rfl rfl dX1_findDependencies_22 rfl ?_
        refine gx_topi (b := (nI x)) ((hDf.2.2 i h7).1.2.1.trans hopx) ?_
        refine gx_callV (As := [.int (nI x)]) (st := [.int (nI i), .ref (gF Y go 2)]) hC (c_X1_dependencyOn l Y go (f, σ.2) g hG hn d1f x (by omega)) kX1_dependencyOn wm_RX1_78 rfl hG.1 rfl rfl rfl rfl rfl dX1_findDependencies_25 rfl (gx_ki fun r25 τ25 hq25 => ?_)
        obtain ⟨rfl, rfl⟩ := hq25
        refine gx_aload_n hX 0 dX1_findDependencies_28 rfl rfl ?_
        refine gx_aload_n hX 1 dX1_findDependencies_29 rfl rfl ?_
        refine gx_get hC 0 inlX2 wf_RX1_63 rfl ht rfl rfl rfl rfl dX1_findDependencies_30 rfl ?_
        refine gx_iload_n hX 2 dX1_findDependencies_33 rfl rfl ?_
        refine gx_aaldc (i := i) hC ((hS t ht).1) rfl rfl (by omega) rfl dX1_findDependencies_34 rfl ?_
        obtain ⟨y, hy, hopy⟩ := (hDf.2.2 i h7).2.2.2
        refine gx_get hC 3 inlX0 wf_RX1_82 rfl ((hc i (by omega)).1) rfl rfl rfl rfl dX1_findDependencies_35 rfl ?_
        refine gx_topi (b := (nI y)) ((hDf.2.2 i h7).1.2.2.trans hopy) ?_
        refine gx_callV (As := [.int (nI y)]) (st := [.int (qdo g (nI x)), .int (nI i), .ref (gF Y go 2)]) hC (c_X1_dependencyOn l Y go (f, σ.2) g hG hn d1f y (by omega)) kX1_dependencyOn wm_RX1_78 rfl hG.1 rfl rfl rfl rfl rfl dX1_findDependencies_38 rfl (gx_ki fun r38 τ38 hq38 => ?_)
        obtain ⟨rfl, rfl⟩ := hq38
        refine gx_ior hX dX1_findDependencies_41 rfl ?_
        refine gx_topi (b := (qdir g i)) (by rw [← hopx, ← hopy]; rfl) ?_
        refine gx_iast (i := i) hC hG.2.2.2.1 rfl rfl rfl rfl (by omega) rfl dX1_findDependencies_42 rfl ?_
        refine gx_iinc (w := (nI (i + 1))) (lv' := [(2, .int (nI (i + 1))), (0, .ref go), (1, .ref t)]) hX 2 dX1_findDependencies_43 rfl rfl (nI_add _ _) (by decide) rfl ?_
        refine gx_goto (pc' := 2) hX dX1_findDependencies_46 (by decide) ?_
        exact gx_sub [1, 2, 0] rfl (ih2 (i + 1) (uI (f, σ.2) (gF Y go 2) i (qdir g i)).1 (by omega) (by omega) (he.put (hG.2.2.2.1) (by decide)) (uI_rng hz rfl))
  exact gx_sub [1, 2, 0] rfl (L2 (qn g + 1) 0 σ.1 (by omega) (by omega) gEq.rf (fun v hv => absurd hv (Nat.not_lt_zero v)))

set_option maxRecDepth 100000 in
set_option maxHeartbeats 4000000 in
theorem c_X1_closeDependencies (l : Launch) (Y : gL) (go : Nat) (σ : gS) (g : qG) (hG : zLG Y go) (hn : qn g ≤ 12) (d2 : ∀ i, i < qn g → σ.1 (gF Y go 2) i = qdir g i) : gM l yX1_closeDependencies cX1_closeDependencies 4 none (gRm 1 21) Y [.ref go, .int (nI (qn g))] σ (gV fun τ => gEq Y [8] σ τ ∧ ∀ i d, i < qn g → d < qn g → qt (τ.1 (gF Y go 3) i) d = qall g i d) := by
  refine gM.of (by decide) rfl ?_
  intro p e s m args below meth c hC
  have hX := hC.1
  refine gx_iconst (v := 0) hX dX1_closeDependencies_0 rfl (by decide) ?_
  refine gx_istore_n (lv' := [(2, .int 0), (0, .ref go), (1, .int (nI (qn g)))]) hX dX1_closeDependencies_1 rfl (by decide) rfl ?_
  have L2 : ∀ (k2 : Nat) (i : Nat) (f : Nat → Nat → Int32), qn g - i < k2 → (i ≤ qn g) → (gEq Y [8] σ (f, σ.2)) → (∀ i2, i2 < i → f (gF Y go 3) i2 = qdir g i2) → gG p l e (gRm 1 21) s m args below meth c Y (gV fun τ => gEq Y [8] σ τ ∧ ∀ i d, i < qn g → d < qn g → qt (τ.1 (gF Y go 3) i) d = qall g i d) (f, σ.2) 2 [(0, .ref go), (1, .int (nI (qn g))), (2, .int (nI i))] [] := by
    intro k2
    induction k2 with
    | zero => intro i f hk2; exact absurd hk2 (Nat.not_lt_zero _)
    | succ k2 ih2 =>
      intro i f hk2 hi he hz
      have d2f : ∀ i, i < qn g → f (gF Y go 2) i = qdir g i := by rw [show f (gF Y go 2) = σ.1 (gF Y go 2) from he.at (hG.2.2.2.1) (by decide)]; exact d2
      refine gx_iload_n hX 2 dX1_closeDependencies_2 rfl rfl ?_
      refine gx_iload_n hX 1 dX1_closeDependencies_3 rfl rfl ?_
      refine gx_nat_ge (i := i) (j := qn g) (tgt := 25) hX dX1_closeDependencies_4 (by decide) rfl rfl rfl (by omega) (by omega) (fun h4 => ?_) (fun h4 => ?_)
      · refine gx_iconst (v := 0) hX dX1_closeDependencies_25 rfl (by decide) ?_
        refine gx_istore_n (lv' := [(2, .int 0), (0, .ref go), (1, .int (nI (qn g)))]) hX dX1_closeDependencies_26 rfl (by decide) rfl ?_
        have L27 : ∀ (k27 : Nat) (b : Nat) (f : Nat → Nat → Int32), qn g - b < k27 → (b ≤ qn g) → (gEq Y [8] σ (f, σ.2)) → (∀ x d, x < qn g → d < 32 → qt (f (gF Y go 3) x) d = qwar g b x d) → gG p l e (gRm 1 21) s m args below meth c Y (gV fun τ => gEq Y [8] σ τ ∧ ∀ i d, i < qn g → d < qn g → qt (τ.1 (gF Y go 3) i) d = qall g i d) (f, σ.2) 27 [(0, .ref go), (1, .int (nI (qn g))), (2, .int (nI b))] [] := by
          intro k27
          induction k27 with
          | zero => intro b f hk27; exact absurd hk27 (Nat.not_lt_zero _)
          | succ k27 ih27 =>
            intro b f hk27 hb he hw
            refine gx_iload_n hX 2 dX1_closeDependencies_27 rfl rfl ?_
            refine gx_iload_n hX 1 dX1_closeDependencies_28 rfl rfl ?_
            refine gx_nat_ge (i := b) (j := qn g) (tgt := 79) hX dX1_closeDependencies_29 (by decide) rfl rfl rfl (by omega) (by omega) (fun h29 => ?_) (fun h29 => ?_)
            · exact gx_vret hC dX1_closeDependencies_79 (⟨he, fun x d hx hd => by rw [hw x d hx (by omega), show b = qn g by omega]; rfl⟩)
            · refine gx_iconst (v := 0) hX dX1_closeDependencies_32 rfl (by decide) ?_
              refine gx_istore_n (lv' := [(3, .int 0), (0, .ref go), (1, .int (nI (qn g))), (2, .int (nI b))]) hX dX1_closeDependencies_33 rfl (by decide) rfl ?_
              have L34 : ∀ (k34 : Nat) (c1 : Nat) (f2 : Nat → Nat → Int32), qn g - c1 < k34 → (c1 ≤ qn g) → (gEq Y [8] σ (f2, σ.2)) → (∀ x d, x < qn g → d < 32 → qt (f2 (gF Y go 3) x) d = qwar g (if x < c1 then b + 1 else b) x d) → gG p l e (gRm 1 21) s m args below meth c Y (gV fun τ => gEq Y [8] σ τ ∧ ∀ i d, i < qn g → d < qn g → qt (τ.1 (gF Y go 3) i) d = qall g i d) (f2, σ.2) 34 [(0, .ref go), (1, .int (nI (qn g))), (2, .int (nI b)), (3, .int (nI c1))] [] := by
                intro k34
                induction k34 with
                | zero => intro c1 f2 hk34; exact absurd hk34 (Nat.not_lt_zero _)
                | succ k34 ih34 =>
                  intro c1 f2 hk34 hc1 he2 hw2
                  refine gx_iload_n hX 3 dX1_closeDependencies_34 rfl rfl ?_
                  refine gx_iload_n hX 1 dX1_closeDependencies_35 rfl rfl ?_
                  refine gx_nat_ge (i := c1) (j := qn g) (tgt := 73) hX dX1_closeDependencies_36 (by decide) rfl rfl rfl (by omega) (by omega) (fun h36 => ?_) (fun h36 => ?_)
                  · refine gx_iinc (w := (nI (b + 1))) (lv' := [(2, .int (nI (b + 1))), (0, .ref go), (1, .int (nI (qn g))), (3, .int (nI c1))]) hX 2 dX1_closeDependencies_73 rfl rfl (nI_add _ _) (by decide) rfl ?_
                    refine gx_goto (pc' := 27) hX dX1_closeDependencies_76 (by decide) ?_
                    exact gx_sub [1, 2, 0] rfl (ih27 (b + 1) f2 (by omega) (by omega) he2 (fun x d hx hd => by rw [hw2 x d hx hd, if_pos (by omega)]))
                  · refine gx_aload_n hX 0 dX1_closeDependencies_39 rfl rfl ?_
                    refine gx_get hC 3 inlX1 wf_RX1_21 rfl hG.1 rfl rfl rfl rfl dX1_closeDependencies_40 rfl ?_
                    refine gx_iload_n hX 3 dX1_closeDependencies_43 rfl rfl ?_
                    refine gx_iald (i := c1) hC hG.2.2.2.2.1 rfl rfl (by omega) rfl dX1_closeDependencies_44 rfl ?_
                    refine gx_iload_n hX 2 dX1_closeDependencies_45 rfl rfl ?_
                    refine gx_callSN (As := [.int ((f2, σ.2).1 (gF Y go 3) c1), .int (nI b)]) (st := []) hC (c_X3_contains l Y (f2, σ.2) ((f2, σ.2).1 (gF Y go 3) c1) b (by omega)) kX3_contains (by show Cond.methodLinkNest RX1 88 yX3_contains "ReactiveNotebook" ∈ gNest; simp [gNest]) rfl rfl rfl rfl dX1_closeDependencies_46 rfl (gx_ki fun r46 τ46 hq46 => ?_)
                    obtain ⟨rfl, ⟨rfl, hb46⟩ | ⟨rfl, hb46⟩⟩ := hq46
                    · refine gx_if_eq_f (tgt := 67) hX dX1_closeDependencies_49 (by decide) rfl (by decide) ?_
                      refine gx_aload_n hX 0 dX1_closeDependencies_52 rfl rfl ?_
                      refine gx_get hC 3 inlX1 wf_RX1_21 rfl hG.1 rfl rfl rfl rfl dX1_closeDependencies_53 rfl ?_
                      refine gx_iload_n hX 3 dX1_closeDependencies_56 rfl rfl ?_
                      refine gx_dup2 hX dX1_closeDependencies_57 rfl rfl rfl ?_
                      refine gx_iald (i := c1) hC hG.2.2.2.2.1 rfl rfl (by omega) rfl dX1_closeDependencies_58 rfl ?_
                      refine gx_aload_n hX 0 dX1_closeDependencies_59 rfl rfl ?_
                      refine gx_get hC 3 inlX1 wf_RX1_21 rfl hG.1 rfl rfl rfl rfl dX1_closeDependencies_60 rfl ?_
                      refine gx_iload_n hX 2 dX1_closeDependencies_63 rfl rfl ?_
                      refine gx_iald (i := b) hC hG.2.2.2.2.1 rfl rfl (by omega) rfl dX1_closeDependencies_64 rfl ?_
                      refine gx_ior hX dX1_closeDependencies_65 rfl ?_
                      refine gx_iast (i := c1) hC hG.2.2.2.2.1 rfl rfl rfl rfl (by omega) rfl dX1_closeDependencies_66 rfl ?_
                      refine gx_iinc (w := (nI (c1 + 1))) (lv' := [(3, .int (nI (c1 + 1))), (0, .ref go), (1, .int (nI (qn g))), (2, .int (nI b))]) hX 3 dX1_closeDependencies_67 rfl rfl (nI_add _ _) (by decide) rfl ?_
                      refine gx_goto (pc' := 34) hX dX1_closeDependencies_70 (by decide) ?_
                      exact gx_sub [1, 2, 3, 0] rfl (ih34 (c1 + 1) (uI (f2, σ.2) (gF Y go 3) c1 (((f2, σ.2).1 (gF Y go 3) c1) ||| ((f2, σ.2).1 (gF Y go 3) b))).1 (by omega) (by omega) (he2.put (hG.2.2.2.2.1) (by decide)) (qwstep (A := f2 (gF Y go 3)) hn h29 h36 (fun x hx hne => uI_off hne) (uI_at.trans (if_pos hb46).symm) hw2))
                    · refine gx_if_eq_t (tgt := 67) hX dX1_closeDependencies_49 (by decide) (by decide) ?_
                      refine gx_iinc (w := (nI (c1 + 1))) (lv' := [(3, .int (nI (c1 + 1))), (0, .ref go), (1, .int (nI (qn g))), (2, .int (nI b))]) hX 3 dX1_closeDependencies_67 rfl rfl (nI_add _ _) (by decide) rfl ?_
                      refine gx_goto (pc' := 34) hX dX1_closeDependencies_70 (by decide) ?_
                      exact gx_sub [1, 2, 3, 0] rfl (ih34 (c1 + 1) f2 (by omega) (by omega) he2 (qwstep (A := f2 (gF Y go 3)) hn h29 h36 (fun _ _ _ => rfl) (if_neg hb46).symm hw2))
              exact gx_sub [1, 2, 3, 0] rfl (L34 (qn g + 1) 0 f (by omega) (by omega) he (fun x d hx hd => by rw [if_neg (Nat.not_lt_zero x)]; exact hw x d hx hd))
        exact gx_sub [1, 2, 0] rfl (L27 (qn g + 1) 0 f (by omega) (by omega) he (fun x d hx hd => by rw [hz x (by omega)]; rfl))
      · refine gx_aload_n hX 0 dX1_closeDependencies_7 rfl rfl ?_
        refine gx_get hC 3 inlX1 wf_RX1_21 rfl hG.1 rfl rfl rfl rfl dX1_closeDependencies_8 rfl ?_
        refine gx_iload_n hX 2 dX1_closeDependencies_11 rfl rfl ?_
        refine gx_aload_n hX 0 dX1_closeDependencies_12 rfl rfl ?_
        refine gx_get hC 2 inlX1 wf_RX1_18 rfl hG.1 rfl rfl rfl rfl dX1_closeDependencies_13 rfl ?_
        refine gx_iload_n hX 2 dX1_closeDependencies_16 rfl rfl ?_
        refine gx_iald (i := i) hC hG.2.2.2.1 rfl rfl (by omega) rfl dX1_closeDependencies_17 rfl ?_
        refine gx_topi (b := (qdir g i)) (d2f i h4) ?_
        refine gx_iast (i := i) hC hG.2.2.2.2.1 rfl rfl rfl rfl (by omega) rfl dX1_closeDependencies_18 rfl ?_
        refine gx_iinc (w := (nI (i + 1))) (lv' := [(2, .int (nI (i + 1))), (0, .ref go), (1, .int (nI (qn g)))]) hX 2 dX1_closeDependencies_19 rfl rfl (nI_add _ _) (by decide) rfl ?_
        refine gx_goto (pc' := 2) hX dX1_closeDependencies_22 (by decide) ?_
        exact gx_sub [1, 2, 0] rfl (ih2 (i + 1) (uI (f, σ.2) (gF Y go 3) i (qdir g i)).1 (by omega) (by omega) (he.put (hG.2.2.2.2.1) (by decide)) (uI_rng hz rfl))
  exact gx_sub [1, 2, 0] rfl (L2 (qn g + 1) 0 σ.1 (by omega) (by omega) gEq.rf (fun v hv => absurd hv (Nat.not_lt_zero v)))

set_option maxRecDepth 100000 in
set_option maxHeartbeats 4000000 in
theorem c_X1_ownError (l : Launch) (Y : gL) (go k i : Nat) (σ : gS) (g : qG) (v x y : Nat) (hG : zLG Y go) (hk : gK Y k = 14) (hn : qn g ≤ 12) (hi : i < qn g) (hv : v < 10) (hx : x < 110) (hy : y < 110) (e0 : σ.1 k 0 = nI v) (e2 : σ.1 k 2 = nI x) (e3 : σ.1 k 3 = nI y) (hV : qV g i = nI v) (hL : qL g i = nI x) (hR : qR g i = nI y) (d0 : ∀ v, v < 10 → σ.1 (gF Y go 0) v = qdf g (nI v)) (d1 : ∀ v, v < 10 → σ.1 (gF Y go 1) v = zk (qonl (qdf g (nI v)))) (d3 : ∀ i d, i < qn g → d < qn g → qt (σ.1 (gF Y go 3) i) d = qall g i d) : gM l yX1_ownError cX1_ownError 3 (some .int) (gRm 3 62) Y [.ref go, .ref k, .int (nI i)] σ (gI fun z τ => σ = τ ∧ qown g i = z) := by
  refine gM.of (by decide) rfl ?_
  intro p e s m args below meth c hC
  have hX := hC.1
  refine gx_aload_n hX 0 dX1_ownError_0 rfl rfl ?_
  refine gx_bipush (v := 100) hX dX1_ownError_1 rfl (by decide) ?_
  refine gx_aload_n hX 1 dX1_ownError_3 rfl rfl ?_
  refine gx_get hC 0 inlX0 wf_RX1_67 rfl hk rfl rfl rfl rfl dX1_ownError_4 rfl ?_
  refine gx_topi (b := (nI v)) e0 ?_
  refine gx_iaddN (i := 100) (j := v) hX dX1_ownError_7 rfl rfl rfl ?_
  refine gx_callV (As := [.int (nI (100 + v))]) (st := []) hC (c_X1_soleDefinerOf l Y go σ g hG hn d1 (100 + v) (by omega)) kX1_soleDefinerOf wm_RX1_85 rfl hG.1 rfl rfl rfl rfl rfl dX1_ownError_8 rfl (gx_ki fun r8 τ8 hq8 => ?_)
  obtain ⟨rfl, ⟨rfl, hb8⟩ | ⟨rfl, hb8⟩⟩ := hq8
  · refine gx_iload_n hX 2 dX1_ownError_11 rfl rfl ?_
    refine gx_nat_eq (i := qsrc g (nI (100 + v))) (j := i) (tgt := 17) hX dX1_ownError_12 (by decide) rfl rfl rfl (by omega) (by omega) (fun h12 => ?_) (fun h12 => ?_)
    · refine gx_aload_n hX 0 dX1_ownError_17 rfl rfl ?_
      refine gx_get hC 3 inlX1 wf_RX1_21 rfl hG.1 rfl rfl rfl rfl dX1_ownError_18 rfl ?_
      refine gx_iload_n hX 2 dX1_ownError_21 rfl rfl ?_
      refine gx_iald (i := i) hC hG.2.2.2.2.1 rfl rfl (by omega) rfl dX1_ownError_22 rfl ?_
      refine gx_iload_n hX 2 dX1_ownError_23 rfl rfl ?_
      refine gx_callSN (As := [.int (σ.1 (gF Y go 3) i), .int (nI i)]) (st := []) hC (c_X3_contains l Y σ (σ.1 (gF Y go 3) i) i (by omega)) kX3_contains (by show Cond.methodLinkNest RX1 88 yX3_contains "ReactiveNotebook" ∈ gNest; simp [gNest]) rfl rfl rfl rfl dX1_ownError_24 rfl (gx_ki fun r24 τ24 hq24 => ?_)
      obtain ⟨rfl, ⟨rfl, hb24⟩ | ⟨rfl, hb24⟩⟩ := hq24
      · refine gx_if_eq_f (tgt := 32) hX dX1_ownError_27 (by decide) rfl (by decide) ?_
        refine gx_iconst (v := 3) hX dX1_ownError_30 rfl (by decide) ?_
        exact gx_iret hC dX1_ownError_31 (⟨rfl, (if_pos ((zown2 hV hv (by omega)).mpr h12)).trans (if_pos (by rw [← d3 i i hi hi]; exact hb24))⟩)
      · refine gx_if_eq_t (tgt := 32) hX dX1_ownError_27 (by decide) (by decide) ?_
        refine gx_aload_n hX 0 dX1_ownError_32 rfl rfl ?_
        refine gx_aload_n hX 1 dX1_ownError_33 rfl rfl ?_
        refine gx_get hC 2 inlX0 wf_RX1_75 rfl hk rfl rfl rfl rfl dX1_ownError_34 rfl ?_
        refine gx_topi (b := (nI x)) e2 ?_
        refine gx_callV (As := [.int (nI x)]) (st := []) hC (c_X1_isUndefined l Y go σ g hG hn d0 x (by omega)) kX1_isUndefined wm_RX1_100 rfl hG.1 rfl rfl rfl rfl rfl dX1_ownError_37 rfl (gx_ki fun r37 τ37 hq37 => ?_)
        obtain ⟨rfl, ⟨rfl, hb37⟩ | ⟨rfl, hb37⟩⟩ := hq37
        · refine gx_if_ne_t (tgt := 54) hX dX1_ownError_40 (by decide) (by decide) ?_
          refine gx_iconst (v := 4) hX dX1_ownError_54 rfl (by decide) ?_
          refine gx_goto (pc' := 59) hX dX1_ownError_55 (by decide) ?_
          exact gx_iret hC dX1_ownError_59 (⟨rfl, (if_pos ((zown2 hV hv (by omega)).mpr h12)).trans ((if_neg (by rw [← d3 i i hi hi]; exact hb24)).trans (if_pos (by rw [hL, hR]; first | exact Or.inl hb37 | exact Or.inr hb48)))⟩)
        · refine gx_if_ne_f (tgt := 54) hX dX1_ownError_40 (by decide) rfl (by decide) ?_
          refine gx_aload_n hX 0 dX1_ownError_43 rfl rfl ?_
          refine gx_aload_n hX 1 dX1_ownError_44 rfl rfl ?_
          refine gx_get hC 3 inlX0 wf_RX1_82 rfl hk rfl rfl rfl rfl dX1_ownError_45 rfl ?_
          refine gx_topi (b := (nI y)) e3 ?_
          refine gx_callV (As := [.int (nI y)]) (st := []) hC (c_X1_isUndefined l Y go σ g hG hn d0 y (by omega)) kX1_isUndefined wm_RX1_100 rfl hG.1 rfl rfl rfl rfl rfl dX1_ownError_48 rfl (gx_ki fun r48 τ48 hq48 => ?_)
          obtain ⟨rfl, ⟨rfl, hb48⟩ | ⟨rfl, hb48⟩⟩ := hq48
          · refine gx_if_eq_f (tgt := 58) hX dX1_ownError_51 (by decide) rfl (by decide) ?_
            refine gx_iconst (v := 4) hX dX1_ownError_54 rfl (by decide) ?_
            refine gx_goto (pc' := 59) hX dX1_ownError_55 (by decide) ?_
            exact gx_iret hC dX1_ownError_59 (⟨rfl, (if_pos ((zown2 hV hv (by omega)).mpr h12)).trans ((if_neg (by rw [← d3 i i hi hi]; exact hb24)).trans (if_pos (by rw [hL, hR]; first | exact Or.inl hb37 | exact Or.inr hb48)))⟩)
          · refine gx_if_eq_t (tgt := 58) hX dX1_ownError_51 (by decide) (by decide) ?_
            refine gx_iconst (v := 0) hX dX1_ownError_58 rfl (by decide) ?_
            exact gx_iret hC dX1_ownError_59 (⟨rfl, (if_pos ((zown2 hV hv (by omega)).mpr h12)).trans ((if_neg (by rw [← d3 i i hi hi]; exact hb24)).trans (if_neg (by rw [hL, hR]; rintro (z | z); exact hb37 z; exact hb48 z)))⟩)
    · refine gx_iconst (v := 2) hX dX1_ownError_15 rfl (by decide) ?_
      exact gx_iret hC dX1_ownError_16 (⟨rfl, if_neg (fun z => by have z2 := (zown2 hV hv (by omega)).mp z; first | exact h12 z2 | omega)⟩)
  · refine gx_iload_n hX 2 dX1_ownError_11 rfl rfl ?_
    refine gx_icmp_eq_f (tgt := 17) hX dX1_ownError_12 (by decide) rfl (fun q => nI_neg (by omega) (by decide) q.symm) ?_
    refine gx_iconst (v := 2) hX dX1_ownError_15 rfl (by decide) ?_
    exact gx_iret hC dX1_ownError_16 (⟨rfl, if_neg (fun z => by have z2 := (zown2 hV hv (by omega)).mp z; first | exact h12 z2 | omega)⟩)

set_option maxRecDepth 100000 in
set_option maxHeartbeats 4000000 in
theorem c_X1_spreadBadInput (l : Launch) (Y : gL) (go : Nat) (σ : gS) (g : qG) (hG : zLG Y go) (hn : qn g ≤ 12) (d0 : ∀ v, v < 10 → σ.1 (gF Y go 0) v = qdf g (nI v)) (t : Nat) (hS : zLS Y) (ht : gK Y t = 11) (hc : zCs Y σ.2.1 t) (hD : zD Y σ t g) (M : Int32) (hw0 : ∀ i, i < qn g → σ.1 (gF Y go 4) i = qw0 g i) (hM : ∀ d, d < 32 → qt M d = decide (qw0 g d ≠ 0)) : gM l yX1_spreadBadInput cX1_spreadBadInput 7 none (gRm 2 41) Y [.ref go, .ref t, .int M] σ (gV fun τ => gEq Y [9] σ τ ∧ ∀ i, i < qn g → τ.1 (gF Y go 4) i = qw g i) := by
  refine gM.of (by decide) rfl ?_
  intro p e s m args below meth c hC
  have hX := hC.1
  refine gx_iload_n hX 2 dX1_spreadBadInput_0 rfl rfl ?_
  refine gx_istore_n (lv' := [(3, .int M), (0, .ref go), (1, .ref t), (2, .int M)]) hX dX1_spreadBadInput_1 rfl (by decide) rfl ?_
  refine gx_iconst (v := 0) hX dX1_spreadBadInput_2 rfl (by decide) ?_
  refine gx_istore (lv' := [(4, .int 0), (3, .int M), (0, .ref go), (1, .ref t), (2, .int M)]) hX dX1_spreadBadInput_3 rfl (by decide) rfl ?_
  have L5 : ∀ (k5 : Nat) (a : Nat) (f : Nat → Nat → Int32) (M1 : Int32) (w1 : Nat → Int32), qn g - a < k5 → (a ≤ qn g) → (gEq Y [9] σ (f, σ.2)) → (w1 = (qit (fun _ w => qit (qst g) (qn g) w) a (qw0 g))) → (∀ i, i < qn g → f (gF Y go 4) i = w1 i) → (∀ d, d < 32 → qt M1 d = decide (w1 d ≠ 0)) → gG p l e (gRm 2 41) s m args below meth c Y (gV fun τ => gEq Y [9] σ τ ∧ ∀ i, i < qn g → τ.1 (gF Y go 4) i = qw g i) (f, σ.2) 5 [(0, .ref go), (1, .ref t), (3, .int M1), (4, .int (nI a))] [] := by
    intro k5
    induction k5 with
    | zero => intro a f M1 w1 hk5; exact absurd hk5 (Nat.not_lt_zero _)
    | succ k5 ih5 =>
      intro a f M1 w1 hk5 ha he hwe hw1 hM1
      have hDf := hD.eq ht hc he (by decide) (by decide)
      refine gx_iload hX 3 dX1_spreadBadInput_5 rfl rfl ?_
      refine gx_aload_n hX 1 dX1_spreadBadInput_7 rfl rfl ?_
      refine gx_get hC 1 inlX2 wf_RX1_44 rfl ht rfl rfl rfl rfl dX1_spreadBadInput_8 rfl ?_
      refine gx_topi (b := (nI (qn g))) hDf.2.1 ?_
      refine gx_nat_ge (i := a) (j := qn g) (tgt := 101) hX dX1_spreadBadInput_11 (by decide) rfl rfl rfl (by omega) (by omega) (fun h11 => ?_) (fun h11 => ?_)
      · exact gx_vret hC dX1_spreadBadInput_101 (⟨he, fun i hi => (hw1 i hi).trans (by rw [hwe, show a = qn g by omega]; rfl)⟩)
      · refine gx_iconst (v := 0) hX dX1_spreadBadInput_14 rfl (by decide) ?_
        refine gx_istore (lv' := [(5, .int 0), (0, .ref go), (1, .ref t), (3, .int M1), (4, .int (nI a))]) hX dX1_spreadBadInput_15 rfl (by decide) rfl ?_
        have L17 : ∀ (k17 : Nat) (c1 : Nat) (f2 : Nat → Nat → Int32) (M2 : Int32) (w2 : Nat → Int32), qn g - c1 < k17 → (c1 ≤ qn g) → (gEq Y [9] σ (f2, σ.2)) → (w2 = qit (qst g) c1 w1) → (∀ i, i < qn g → f2 (gF Y go 4) i = w2 i) → (∀ d, d < 32 → qt M2 d = decide (w2 d ≠ 0)) → gG p l e (gRm 2 41) s m args below meth c Y (gV fun τ => gEq Y [9] σ τ ∧ ∀ i, i < qn g → τ.1 (gF Y go 4) i = qw g i) (f2, σ.2) 17 [(0, .ref go), (1, .ref t), (3, .int M2), (4, .int (nI a)), (5, .int (nI c1))] [] := by
          intro k17
          induction k17 with
          | zero => intro c1 f2 M2 w2 hk17; exact absurd hk17 (Nat.not_lt_zero _)
          | succ k17 ih17 =>
            intro c1 f2 M2 w2 hk17 hc1 he2 hwe2 hw2 hM2
            have hDf := hD.eq ht hc he2 (by decide) (by decide)
            have d0f : ∀ v, v < 10 → f2 (gF Y go 0) v = qdf g (nI v) := by rw [show f2 (gF Y go 0) = σ.1 (gF Y go 0) from he2.at (hG.2.1) (by decide)]; exact d0
            refine gx_iload hX 4 dX1_spreadBadInput_17 rfl rfl ?_
            refine gx_aload_n hX 1 dX1_spreadBadInput_19 rfl rfl ?_
            refine gx_get hC 1 inlX2 wf_RX1_44 rfl ht rfl rfl rfl rfl dX1_spreadBadInput_20 rfl ?_
            refine gx_topi (b := (nI (qn g))) hDf.2.1 ?_
            refine gx_nat_ge (i := c1) (j := qn g) (tgt := 95) hX dX1_spreadBadInput_23 (by decide) rfl rfl rfl (by omega) (by omega) (fun h23 => ?_) (fun h23 => ?_)
            · refine gx_iinc (w := (nI (a + 1))) (lv' := [(4, .int (nI (a + 1))), (0, .ref go), (1, .ref t), (3, .int M2), (5, .int (nI c1))]) hX 3 dX1_spreadBadInput_95 rfl rfl (nI_add _ _) (by decide) rfl ?_
              refine gx_goto (pc' := 5) hX dX1_spreadBadInput_98 (by decide) ?_
              exact gx_sub [1, 2, 3, 0] rfl (ih5 (a + 1) f2 M2 w2 (by omega) (by omega) he2 (by rw [hwe2, hwe, show c1 = qn g by omega]; rfl) hw2 hM2)
            · refine gx_aload_n hX 0 dX1_spreadBadInput_26 rfl rfl ?_
              refine gx_aload_n hX 1 dX1_spreadBadInput_27 rfl rfl ?_
              refine gx_get hC 0 inlX2 wf_RX1_63 rfl ht rfl rfl rfl rfl dX1_spreadBadInput_28 rfl ?_
              refine gx_iload hX 4 dX1_spreadBadInput_31 rfl rfl ?_
              refine gx_aaldc (i := c1) hC ((hS t ht).1) rfl rfl (by omega) rfl dX1_spreadBadInput_33 rfl ?_
              obtain ⟨x, hx, hopx⟩ := (hDf.2.2 c1 h23).2.2.1
              refine gx_get hC 2 inlX0 wf_RX1_75 rfl ((hc c1 (by omega)).1) rfl rfl rfl rfl dX1_spreadBadInput_34 rfl ?_
              refine gx_topi (b := (nI x)) ((hDf.2.2 c1 h23).1.2.1.trans hopx) ?_
              refine gx_callV (As := [.int (nI x)]) (st := []) hC (c_X1_definersOf l Y go (f2, σ.2) g hG hn d0f x (by omega)) kX1_definersOf wm_RX1_103 rfl hG.1 rfl rfl rfl rfl rfl dX1_spreadBadInput_37 rfl (gx_ki fun r37 τ37 hq37 => ?_)
              obtain ⟨rfl, rfl⟩ := hq37
              refine gx_aload_n hX 0 dX1_spreadBadInput_40 rfl rfl ?_
              refine gx_aload_n hX 1 dX1_spreadBadInput_41 rfl rfl ?_
              refine gx_get hC 0 inlX2 wf_RX1_63 rfl ht rfl rfl rfl rfl dX1_spreadBadInput_42 rfl ?_
              refine gx_iload hX 4 dX1_spreadBadInput_45 rfl rfl ?_
              refine gx_aaldc (i := c1) hC ((hS t ht).1) rfl rfl (by omega) rfl dX1_spreadBadInput_47 rfl ?_
              obtain ⟨y, hy, hopy⟩ := (hDf.2.2 c1 h23).2.2.2
              refine gx_get hC 3 inlX0 wf_RX1_82 rfl ((hc c1 (by omega)).1) rfl rfl rfl rfl dX1_spreadBadInput_48 rfl ?_
              refine gx_topi (b := (nI y)) ((hDf.2.2 c1 h23).1.2.2.trans hopy) ?_
              refine gx_callV (As := [.int (nI y)]) (st := [.int (qused g (nI x))]) hC (c_X1_definersOf l Y go (f2, σ.2) g hG hn d0f y (by omega)) kX1_definersOf wm_RX1_103 rfl hG.1 rfl rfl rfl rfl rfl dX1_spreadBadInput_51 rfl (gx_ki fun r51 τ51 hq51 => ?_)
              obtain ⟨rfl, rfl⟩ := hq51
              refine gx_ior hX dX1_spreadBadInput_54 rfl ?_
              refine gx_istore (lv' := [(6, .int ((qused g (nI x)) ||| (qused g (nI y)))), (0, .ref go), (1, .ref t), (3, .int M2), (4, .int (nI a)), (5, .int (nI c1))]) hX dX1_spreadBadInput_55 rfl (by decide) rfl ?_
              have hbb : (qused g (nI x) ||| qused g (nI y)) &&& M2 ≠ 0 ↔ (qbad g w2 (qL g c1) = true ∨ qbad g w2 (qR g c1) = true) := by rw [hopx, hopy]; exact zbads hn hM2
              refine gx_aload_n hX 1 dX1_spreadBadInput_57 rfl rfl ?_
              refine gx_get hC 4 inlX1 wf_RX1_24 rfl hG.1 rfl rfl rfl rfl dX1_spreadBadInput_58 rfl ?_
              refine gx_iload hX 5 dX1_spreadBadInput_61 rfl rfl ?_
              refine gx_iald (i := c1) hC hG.2.2.2.2.2.1 rfl rfl (by omega) rfl dX1_spreadBadInput_63 rfl ?_
              refine gx_topi (b := (w2 c1)) (hw2 c1 h23) ?_
              refine gx_if_ne (tgt := 89) hX dX1_spreadBadInput_64 (by decide) rfl (fun h64 => ?_) (fun h64 => ?_)
              · refine gx_iinc (w := (nI (c1 + 1))) (lv' := [(5, .int (nI (c1 + 1))), (6, .int ((qused g (nI x)) ||| (qused g (nI y)))), (0, .ref go), (1, .ref t), (3, .int M2), (4, .int (nI a))]) hX 5 dX1_spreadBadInput_89 rfl rfl (nI_add _ _) (by decide) rfl ?_
                refine gx_goto (pc' := 17) hX dX1_spreadBadInput_92 (by decide) ?_
                exact gx_sub [2, 3, 4, 5, 0] rfl (ih17 (c1 + 1) f2 M2 (qst g c1 w2) (by omega) (by omega) he2 (by rw [hwe2]; rfl) (by first | (rw [qst_no (Or.inl h64)]; exact hw2) | (rw [qst_no (Or.inr (zno hbb h71))]; exact hw2)) (by first | (rw [qst_no (Or.inl h64)]; exact hM2) | (rw [qst_no (Or.inr (zno hbb h71))]; exact hM2)))
              · refine gx_iload hX 0 dX1_spreadBadInput_67 rfl rfl ?_
                refine gx_iload_n hX 3 dX1_spreadBadInput_69 rfl rfl ?_
                refine gx_iand hX dX1_spreadBadInput_70 rfl ?_
                refine gx_if_eq (tgt := 89) hX dX1_spreadBadInput_71 (by decide) rfl (fun h71 => ?_) (fun h71 => ?_)
                · refine gx_iinc (w := (nI (c1 + 1))) (lv' := [(5, .int (nI (c1 + 1))), (6, .int ((qused g (nI x)) ||| (qused g (nI y)))), (0, .ref go), (1, .ref t), (3, .int M2), (4, .int (nI a))]) hX 5 dX1_spreadBadInput_89 rfl rfl (nI_add _ _) (by decide) rfl ?_
                  refine gx_goto (pc' := 17) hX dX1_spreadBadInput_92 (by decide) ?_
                  exact gx_sub [2, 3, 4, 5, 0] rfl (ih17 (c1 + 1) f2 M2 (qst g c1 w2) (by omega) (by omega) he2 (by rw [hwe2]; rfl) (by first | (rw [qst_no (Or.inl h64)]; exact hw2) | (rw [qst_no (Or.inr (zno hbb h71))]; exact hw2)) (by first | (rw [qst_no (Or.inl h64)]; exact hM2) | (rw [qst_no (Or.inr (zno hbb h71))]; exact hM2)))
                · refine gx_aload_n hX 1 dX1_spreadBadInput_74 rfl rfl ?_
                  refine gx_get hC 4 inlX1 wf_RX1_24 rfl hG.1 rfl rfl rfl rfl dX1_spreadBadInput_75 rfl ?_
                  refine gx_iload hX 5 dX1_spreadBadInput_78 rfl rfl ?_
                  refine gx_iconst (v := 5) hX dX1_spreadBadInput_80 rfl (by decide) ?_
                  refine gx_iast (i := c1) hC hG.2.2.2.2.2.1 rfl rfl rfl rfl (by omega) rfl dX1_spreadBadInput_81 rfl ?_
                  refine gx_iload_n hX 3 dX1_spreadBadInput_82 rfl rfl ?_
                  refine gx_iconst (v := 1) hX dX1_spreadBadInput_83 rfl (by decide) ?_
                  refine gx_iload hX 5 dX1_spreadBadInput_84 rfl rfl ?_
                  refine gx_ishl hX dX1_spreadBadInput_86 rfl ?_
                  refine gx_ior hX dX1_spreadBadInput_87 rfl ?_
                  refine gx_topi (b := (M2 ||| qb c1)) rfl ?_
                  refine gx_istore_n (lv' := [(3, .int (M2 ||| qb c1)), (6, .int ((qused g (nI x)) ||| (qused g (nI y)))), (0, .ref go), (1, .ref t), (4, .int (nI a)), (5, .int (nI c1))]) hX dX1_spreadBadInput_88 rfl (by decide) rfl ?_
                  refine gx_iinc (w := (nI (c1 + 1))) (lv' := [(5, .int (nI (c1 + 1))), (3, .int (M2 ||| qb c1)), (6, .int ((qused g (nI x)) ||| (qused g (nI y)))), (0, .ref go), (1, .ref t), (4, .int (nI a))]) hX 5 dX1_spreadBadInput_89 rfl rfl (nI_add _ _) (by decide) rfl ?_
                  refine gx_goto (pc' := 17) hX dX1_spreadBadInput_92 (by decide) ?_
                  exact gx_sub [3, 4, 1, 5, 0] rfl (ih17 (c1 + 1) (uI (f2, σ.2) (gF Y go 4) c1 5).1 (M2 ||| qb c1) (qst g c1 w2) (by omega) (by omega) (he2.put (hG.2.2.2.2.2.1) (by decide)) (by rw [hwe2]; rfl) (by rw [qst_yes h64 (hbb.mp h71)]; exact uI_qup hw2) (by rw [qst_yes h64 (hbb.mp h71)]; exact zmask_put (by omega) (by decide) hM2))
        exact gx_sub [1, 2, 3, 4, 0] rfl (L17 (qn g + 1) 0 f M1 w1 (by omega) (by omega) he rfl hw1 hM1)
  exact gx_sub [2, 3, 1, 0] rfl (L5 (qn g + 1) 0 σ.1 M (qw0 g) (by omega) (by omega) gEq.rf rfl hw0 hM)

set_option maxRecDepth 100000 in
set_option maxHeartbeats 4000000 in
theorem c_X1_findStaticErrors (l : Launch) (Y : gL) (go : Nat) (σ : gS) (g : qG) (hG : zLG Y go) (hn : qn g ≤ 12) (d0 : ∀ v, v < 10 → σ.1 (gF Y go 0) v = qdf g (nI v)) (d1 : ∀ v, v < 10 → σ.1 (gF Y go 1) v = zk (qonl (qdf g (nI v)))) (d3 : ∀ i d, i < qn g → d < qn g → qt (σ.1 (gF Y go 3) i) d = qall g i d) (t : Nat) (hS : zLS Y) (ht : gK Y t = 11) (hc : zCs Y σ.2.1 t) (hD : zD Y σ t g) : gM l yX1_findStaticErrors cX1_findStaticErrors 4 none (gRm 4 84) Y [.ref go, .ref t] σ (gV fun τ => gEq Y [9] σ τ ∧ ∀ i, i < qn g → τ.1 (gF Y go 4) i = qw g i) := by
  refine gM.of (by decide) rfl ?_
  intro p e s m args below meth c hC
  have hX := hC.1
  refine gx_iconst (v := 0) hX dX1_findStaticErrors_0 rfl (by decide) ?_
  refine gx_istore_n (lv' := [(2, .int 0), (0, .ref go), (1, .ref t)]) hX dX1_findStaticErrors_1 rfl (by decide) rfl ?_
  refine gx_iconst (v := 0) hX dX1_findStaticErrors_2 rfl (by decide) ?_
  refine gx_istore_n (lv' := [(3, .int 0), (2, .int 0), (0, .ref go), (1, .ref t)]) hX dX1_findStaticErrors_3 rfl (by decide) rfl ?_
  have L4 : ∀ (k4 : Nat) (i : Nat) (f : Nat → Nat → Int32) (M : Int32), qn g - i < k4 → (i ≤ qn g) → (gEq Y [9] σ (f, σ.2)) → (∀ i2, i2 < i → f (gF Y go 4) i2 = qown g i2) → (∀ d, d < 32 → qt M d = decide (zlow (qown g) i d ≠ 0)) → gG p l e (gRm 4 84) s m args below meth c Y (gV fun τ => gEq Y [9] σ τ ∧ ∀ i, i < qn g → τ.1 (gF Y go 4) i = qw g i) (f, σ.2) 4 [(0, .ref go), (1, .ref t), (2, .int M), (3, .int (nI i))] [] := by
    intro k4
    induction k4 with
    | zero => intro i f M hk4; exact absurd hk4 (Nat.not_lt_zero _)
    | succ k4 ih4 =>
      intro i f M hk4 hi he hz hM
      have hDf := hD.eq ht hc he (by decide) (by decide)
      have d0f : ∀ v, v < 10 → f (gF Y go 0) v = qdf g (nI v) := by rw [show f (gF Y go 0) = σ.1 (gF Y go 0) from he.at (hG.2.1) (by decide)]; exact d0
      have d1f : ∀ v, v < 10 → f (gF Y go 1) v = zk (qonl (qdf g (nI v))) := by rw [show f (gF Y go 1) = σ.1 (gF Y go 1) from he.at (hG.2.2.1) (by decide)]; exact d1
      have d3f : ∀ i d, i < qn g → d < qn g → qt (f (gF Y go 3) i) d = qall g i d := by rw [show f (gF Y go 3) = σ.1 (gF Y go 3) from he.at (hG.2.2.2.2.1) (by decide)]; exact d3
      refine gx_iload_n hX 3 dX1_findStaticErrors_4 rfl rfl ?_
      refine gx_aload_n hX 1 dX1_findStaticErrors_5 rfl rfl ?_
      refine gx_get hC 1 inlX2 wf_RX1_44 rfl ht rfl rfl rfl rfl dX1_findStaticErrors_6 rfl ?_
      refine gx_topi (b := (nI (qn g))) hDf.2.1 ?_
      refine gx_nat_ge (i := i) (j := qn g) (tgt := 50) hX dX1_findStaticErrors_9 (by decide) rfl rfl rfl (by omega) (by omega) (fun h9 => ?_) (fun h9 => ?_)
      · have hie : i = qn g := by omega
        have hw0 : ∀ i, i < qn g → f (gF Y go 4) i = qw0 g i := fun i2 hi2 => (hz i2 (by omega)).trans (if_pos hi2).symm
        have hM0 : ∀ d, d < 32 → qt M d = decide (qw0 g d ≠ 0) := by rw [hie] at hM; exact hM
        refine gx_aload_n hX 0 dX1_findStaticErrors_50 rfl rfl ?_
        refine gx_aload_n hX 1 dX1_findStaticErrors_51 rfl rfl ?_
        refine gx_iload_n hX 2 dX1_findStaticErrors_52 rfl rfl ?_
        refine gx_callV (As := [.ref t, .int M]) (st := []) hC (c_X1_spreadBadInput l Y go (f, σ.2) g hG hn d0f t hS ht hc hDf M hw0 hM0) kX1_spreadBadInput wm_RX1_96 rfl hG.1 rfl rfl rfl rfl rfl dX1_findStaticErrors_53 rfl (gx_kv fun τ53 hq53 => ?_)
        obtain ⟨f53, w53⟩ := τ53
        obtain rfl : w53 = σ.2 := hq53.1.1
        exact gx_vret hC dX1_findStaticErrors_56 (⟨he.tr hq53.1, hq53.2⟩)
      · refine gx_aload_n hX 0 dX1_findStaticErrors_12 rfl rfl ?_
        refine gx_get hC 4 inlX1 wf_RX1_24 rfl hG.1 rfl rfl rfl rfl dX1_findStaticErrors_13 rfl ?_
        refine gx_iload_n hX 3 dX1_findStaticErrors_16 rfl rfl ?_
        refine gx_aload_n hX 0 dX1_findStaticErrors_17 rfl rfl ?_
        refine gx_aload_n hX 1 dX1_findStaticErrors_18 rfl rfl ?_
        refine gx_get hC 0 inlX2 wf_RX1_63 rfl ht rfl rfl rfl rfl dX1_findStaticErrors_19 rfl ?_
        refine gx_iload_n hX 3 dX1_findStaticErrors_22 rfl rfl ?_
        refine gx_aaldc (i := i) hC ((hS t ht).1) rfl rfl (by omega) rfl dX1_findStaticErrors_23 rfl ?_
        refine gx_iload_n hX 3 dX1_findStaticErrors_24 rfl rfl ?_
        obtain ⟨v, hv, hV⟩ := (hDf.2.2 i h9).2.1
        obtain ⟨x, hx, hopx⟩ := (hDf.2.2 i h9).2.2.1
        obtain ⟨y, hy, hopy⟩ := (hDf.2.2 i h9).2.2.2
        refine gx_callV (As := [.ref (σ.2.1 (gF Y t 0) i), .int (nI i)]) (st := [.int (nI i), .ref (gF Y go 4)]) hC (c_X1_ownError l Y go (σ.2.1 (gF Y t 0) i) i (f, σ.2) g v x y hG (hc i (by omega)).1 hn h9 hv hx hy ((hDf.2.2 i h9).1.1.trans hV) ((hDf.2.2 i h9).1.2.1.trans hopx) ((hDf.2.2 i h9).1.2.2.trans hopy) hV hopx hopy d0f d1f d3f) kX1_ownError wm_RX1_92 rfl hG.1 rfl rfl rfl rfl rfl dX1_findStaticErrors_25 rfl (gx_ki fun r25 τ25 hq25 => ?_)
        obtain ⟨rfl, rfl⟩ := hq25
        refine gx_iast (i := i) hC hG.2.2.2.2.2.1 rfl rfl rfl rfl (by omega) rfl dX1_findStaticErrors_28 rfl ?_
        refine gx_aload_n hX 0 dX1_findStaticErrors_29 rfl rfl ?_
        refine gx_get hC 4 inlX1 wf_RX1_24 rfl hG.1 rfl rfl rfl rfl dX1_findStaticErrors_30 rfl ?_
        refine gx_iload_n hX 3 dX1_findStaticErrors_33 rfl rfl ?_
        refine gx_iald (i := i) hC hG.2.2.2.2.2.1 rfl rfl (by omega) rfl dX1_findStaticErrors_34 rfl ?_
        refine gx_topi (b := (qown g i)) uI_at ?_
        refine gx_if_eq (tgt := 44) hX dX1_findStaticErrors_35 (by decide) rfl (fun h35 => ?_) (fun h35 => ?_)
        · refine gx_iinc (w := (nI (i + 1))) (lv' := [(3, .int (nI (i + 1))), (0, .ref go), (1, .ref t), (2, .int M)]) hX 3 dX1_findStaticErrors_44 rfl rfl (nI_add _ _) (by decide) rfl ?_
          refine gx_goto (pc' := 4) hX dX1_findStaticErrors_47 (by decide) ?_
          exact gx_sub [1, 2, 3, 0] rfl (ih4 (i + 1) (uI (f, σ.2) (gF Y go 4) i (qown g i)).1 M (by omega) (by omega) (he.put (hG.2.2.2.2.2.1) (by decide)) (uI_rng hz rfl) (by rw [zlow_n h35]; exact hM))
        · refine gx_iload_n hX 2 dX1_findStaticErrors_38 rfl rfl ?_
          refine gx_iconst (v := 1) hX dX1_findStaticErrors_39 rfl (by decide) ?_
          refine gx_iload_n hX 3 dX1_findStaticErrors_40 rfl rfl ?_
          refine gx_ishl hX dX1_findStaticErrors_41 rfl ?_
          refine gx_ior hX dX1_findStaticErrors_42 rfl ?_
          refine gx_topi (b := (M ||| qb i)) rfl ?_
          refine gx_istore_n (lv' := [(2, .int (M ||| qb i)), (0, .ref go), (1, .ref t), (3, .int (nI i))]) hX dX1_findStaticErrors_43 rfl (by decide) rfl ?_
          refine gx_iinc (w := (nI (i + 1))) (lv' := [(3, .int (nI (i + 1))), (2, .int (M ||| qb i)), (0, .ref go), (1, .ref t)]) hX 3 dX1_findStaticErrors_44 rfl rfl (nI_add _ _) (by decide) rfl ?_
          refine gx_goto (pc' := 4) hX dX1_findStaticErrors_47 (by decide) ?_
          exact gx_sub [2, 3, 1, 0] rfl (ih4 (i + 1) (uI (f, σ.2) (gF Y go 4) i (qown g i)).1 (M ||| qb i) (by omega) (by omega) (he.put (hG.2.2.2.2.2.1) (by decide)) (uI_rng hz rfl) (by rw [zlow_y]; exact zmask_put (by omega) h35 hM))
  exact gx_sub [2, 3, 1, 0] rfl (L4 (qn g + 1) 0 σ.1 0 (by omega) (by omega) gEq.rf (fun v hv => absurd hv (Nat.not_lt_zero v)) (fun d hd => by rw [qt_0 d hd]; unfold zlow; rw [if_neg (Nat.not_lt_zero d)]; rfl))

set_option maxRecDepth 100000 in
set_option maxHeartbeats 4000000 in
theorem c_X1_lowestReady (l : Launch) (Y : gL) (go : Nat) (σ : gS) (g : qG) (hG : zLG Y go) (hn : qn g ≤ 12) (d2 : ∀ i, i < qn g → σ.1 (gF Y go 2) i = qdir g i) (d4 : ∀ i, i < qn g → σ.1 (gF Y go 4) i = qw g i) (A : Int32) : gM l yX1_lowestReady cX1_lowestReady 5 (some .int) (gRm 1 21) Y [.ref go, .int (nI (qn g)), .int A] σ (gI fun z τ => σ = τ ∧ ((nI (qnx g A) = z ∧ (qnx g A) < qn g) ∨ (-1 = z ∧ (qnx g A) = qn g))) := by
  refine gM.of (by decide) rfl ?_
  intro p e s m args below meth c hC
  have hX := hC.1
  refine gx_iconst (v := 0) hX dX1_lowestReady_0 rfl (by decide) ?_
  refine gx_istore_n (lv' := [(3, .int 0), (0, .ref go), (1, .int (nI (qn g))), (2, .int A)]) hX dX1_lowestReady_1 rfl (by decide) rfl ?_
  have L2 : ∀ (k2 : Nat) (c1 : Nat), qn g - c1 < k2 → (c1 ≤ qn g) → (∀ j, j < c1 → qrdy g A j = false) → gG p l e (gRm 1 21) s m args below meth c Y (gI fun z τ => σ = τ ∧ ((nI (qnx g A) = z ∧ (qnx g A) < qn g) ∨ (-1 = z ∧ (qnx g A) = qn g))) σ 2 [(0, .ref go), (1, .int (nI (qn g))), (2, .int A), (3, .int (nI c1))] [] := by
    intro k2
    induction k2 with
    | zero => intro c1 hk2; exact absurd hk2 (Nat.not_lt_zero _)
    | succ k2 ih2 =>
      intro c1 hk2 hc1 hno
      refine gx_iload_n hX 3 dX1_lowestReady_2 rfl rfl ?_
      refine gx_iload_n hX 1 dX1_lowestReady_3 rfl rfl ?_
      refine gx_nat_ge (i := c1) (j := qn g) (tgt := 57) hX dX1_lowestReady_4 (by decide) rfl rfl rfl (by omega) (by omega) (fun h4 => ?_) (fun h4 => ?_)
      · refine gx_iconst (v := (-1)) hX dX1_lowestReady_57 rfl (by decide) ?_
        exact gx_iret hC dX1_lowestReady_58 (⟨rfl, Or.inr ⟨rfl, qfst_none (fun j hj => hno j (by omega))⟩⟩)
      · have h4c : c1 < qn g := by omega
        refine gx_aload_n hX 0 dX1_lowestReady_7 rfl rfl ?_
        refine gx_get hC 2 inlX1 wf_RX1_18 rfl hG.1 rfl rfl rfl rfl dX1_lowestReady_8 rfl ?_
        refine gx_iload_n hX 3 dX1_lowestReady_11 rfl rfl ?_
        refine gx_iald (i := c1) hC hG.2.2.2.1 rfl rfl (by omega) rfl dX1_lowestReady_12 rfl ?_
        refine gx_iload_n hX 2 dX1_lowestReady_13 rfl rfl ?_
        refine gx_iconst (v := (-1)) hX dX1_lowestReady_14 rfl (by decide) ?_
        refine gx_ixor hX dX1_lowestReady_15 rfl ?_
        refine gx_iand hX dX1_lowestReady_16 rfl ?_
        refine gx_if_ne (tgt := 24) hX dX1_lowestReady_17 (by decide) rfl (fun h17 => ?_) (fun h17 => ?_)
        · refine gx_iconst (v := 0) hX dX1_lowestReady_24 rfl (by decide) ?_
          refine gx_istore (lv' := [(4, .int 0), (0, .ref go), (1, .int (nI (qn g))), (2, .int A), (3, .int (nI c1))]) hX dX1_lowestReady_25 rfl (by decide) rfl ?_
          refine gx_aload_n hX 1 dX1_lowestReady_27 rfl rfl ?_
          refine gx_get hC 4 inlX1 wf_RX1_24 rfl hG.1 rfl rfl rfl rfl dX1_lowestReady_28 rfl ?_
          refine gx_iload_n hX 4 dX1_lowestReady_31 rfl rfl ?_
          refine gx_iald (i := c1) hC hG.2.2.2.2.2.1 rfl rfl (by omega) rfl dX1_lowestReady_32 rfl ?_
          refine gx_if_ne (tgt := 51) hX dX1_lowestReady_33 (by decide) rfl (fun h33 => ?_) (fun h33 => ?_)
          · refine gx_iinc (w := (nI (c1 + 1))) (lv' := [(3, .int (nI (c1 + 1))), (4, .int 0), (0, .ref go), (1, .int (nI (qn g))), (2, .int A)]) hX 4 dX1_lowestReady_51 rfl rfl (nI_add _ _) (by decide) rfl ?_
            refine gx_goto (pc' := 2) hX dX1_lowestReady_54 (by decide) ?_
            exact gx_sub [2, 3, 4, 0] rfl (ih2 (c1 + 1) (by omega) (by omega) (fun j hj => by rcases Nat.lt_or_ge j c1 with q | q; exact hno j q; rw [show j = c1 by omega]; unfold qrdy; rw [← d4 c1 h4c, ← d2 c1 h4c]; first | (rw [decide_eq_false h33]; rfl) | (rw [hb38]; simp) | (rw [decide_eq_false h17]; simp)))
          · refine gx_iload_n hX 3 dX1_lowestReady_36 rfl rfl ?_
            refine gx_iload_n hX 4 dX1_lowestReady_37 rfl rfl ?_
            refine gx_callSN (As := [.int A, .int (nI c1)]) (st := []) hC (c_X3_contains l Y σ A c1 (by omega)) kX3_contains (by show Cond.methodLinkNest RX1 88 yX3_contains "ReactiveNotebook" ∈ gNest; simp [gNest]) rfl rfl rfl rfl dX1_lowestReady_38 rfl (gx_ki fun r38 τ38 hq38 => ?_)
            obtain ⟨rfl, ⟨rfl, hb38⟩ | ⟨rfl, hb38⟩⟩ := hq38
            · refine gx_if_ne_t (tgt := 51) hX dX1_lowestReady_41 (by decide) (by decide) ?_
              refine gx_iinc (w := (nI (c1 + 1))) (lv' := [(3, .int (nI (c1 + 1))), (4, .int 0), (0, .ref go), (1, .int (nI (qn g))), (2, .int A)]) hX 4 dX1_lowestReady_51 rfl rfl (nI_add _ _) (by decide) rfl ?_
              refine gx_goto (pc' := 2) hX dX1_lowestReady_54 (by decide) ?_
              exact gx_sub [2, 3, 4, 0] rfl (ih2 (c1 + 1) (by omega) (by omega) (fun j hj => by rcases Nat.lt_or_ge j c1 with q | q; exact hno j q; rw [show j = c1 by omega]; unfold qrdy; rw [← d4 c1 h4c, ← d2 c1 h4c]; first | (rw [decide_eq_false h33]; rfl) | (rw [hb38]; simp) | (rw [decide_eq_false h17]; simp)))
            · refine gx_if_ne_f (tgt := 51) hX dX1_lowestReady_41 (by decide) rfl (by decide) ?_
              refine gx_iload hX 0 dX1_lowestReady_44 rfl rfl ?_
              refine gx_if_eq_t (tgt := 51) hX dX1_lowestReady_46 (by decide) (by decide) ?_
              refine gx_iinc (w := (nI (c1 + 1))) (lv' := [(3, .int (nI (c1 + 1))), (4, .int 0), (0, .ref go), (1, .int (nI (qn g))), (2, .int A)]) hX 4 dX1_lowestReady_51 rfl rfl (nI_add _ _) (by decide) rfl ?_
              refine gx_goto (pc' := 2) hX dX1_lowestReady_54 (by decide) ?_
              exact gx_sub [2, 3, 4, 0] rfl (ih2 (c1 + 1) (by omega) (by omega) (fun j hj => by rcases Nat.lt_or_ge j c1 with q | q; exact hno j q; rw [show j = c1 by omega]; unfold qrdy; rw [← d4 c1 h4c, ← d2 c1 h4c]; first | (rw [decide_eq_false h33]; rfl) | (rw [hb38]; simp) | (rw [decide_eq_false h17]; simp)))
        · refine gx_iconst (v := 1) hX dX1_lowestReady_20 rfl (by decide) ?_
          refine gx_goto (pc' := 25) hX dX1_lowestReady_21 (by decide) ?_
          refine gx_istore (lv' := [(4, .int 1), (0, .ref go), (1, .int (nI (qn g))), (2, .int A), (3, .int (nI c1))]) hX dX1_lowestReady_25 rfl (by decide) rfl ?_
          refine gx_aload_n hX 1 dX1_lowestReady_27 rfl rfl ?_
          refine gx_get hC 4 inlX1 wf_RX1_24 rfl hG.1 rfl rfl rfl rfl dX1_lowestReady_28 rfl ?_
          refine gx_iload_n hX 4 dX1_lowestReady_31 rfl rfl ?_
          refine gx_iald (i := c1) hC hG.2.2.2.2.2.1 rfl rfl (by omega) rfl dX1_lowestReady_32 rfl ?_
          refine gx_if_ne (tgt := 51) hX dX1_lowestReady_33 (by decide) rfl (fun h33 => ?_) (fun h33 => ?_)
          · refine gx_iinc (w := (nI (c1 + 1))) (lv' := [(3, .int (nI (c1 + 1))), (4, .int 1), (0, .ref go), (1, .int (nI (qn g))), (2, .int A)]) hX 4 dX1_lowestReady_51 rfl rfl (nI_add _ _) (by decide) rfl ?_
            refine gx_goto (pc' := 2) hX dX1_lowestReady_54 (by decide) ?_
            exact gx_sub [2, 3, 4, 0] rfl (ih2 (c1 + 1) (by omega) (by omega) (fun j hj => by rcases Nat.lt_or_ge j c1 with q | q; exact hno j q; rw [show j = c1 by omega]; unfold qrdy; rw [← d4 c1 h4c, ← d2 c1 h4c]; first | (rw [decide_eq_false h33]; rfl) | (rw [hb38]; simp) | (rw [decide_eq_false h17]; simp)))
          · refine gx_iload_n hX 3 dX1_lowestReady_36 rfl rfl ?_
            refine gx_iload_n hX 4 dX1_lowestReady_37 rfl rfl ?_
            refine gx_callSN (As := [.int A, .int (nI c1)]) (st := []) hC (c_X3_contains l Y σ A c1 (by omega)) kX3_contains (by show Cond.methodLinkNest RX1 88 yX3_contains "ReactiveNotebook" ∈ gNest; simp [gNest]) rfl rfl rfl rfl dX1_lowestReady_38 rfl (gx_ki fun r38 τ38 hq38 => ?_)
            obtain ⟨rfl, ⟨rfl, hb38⟩ | ⟨rfl, hb38⟩⟩ := hq38
            · refine gx_if_ne_t (tgt := 51) hX dX1_lowestReady_41 (by decide) (by decide) ?_
              refine gx_iinc (w := (nI (c1 + 1))) (lv' := [(3, .int (nI (c1 + 1))), (4, .int 1), (0, .ref go), (1, .int (nI (qn g))), (2, .int A)]) hX 4 dX1_lowestReady_51 rfl rfl (nI_add _ _) (by decide) rfl ?_
              refine gx_goto (pc' := 2) hX dX1_lowestReady_54 (by decide) ?_
              exact gx_sub [2, 3, 4, 0] rfl (ih2 (c1 + 1) (by omega) (by omega) (fun j hj => by rcases Nat.lt_or_ge j c1 with q | q; exact hno j q; rw [show j = c1 by omega]; unfold qrdy; rw [← d4 c1 h4c, ← d2 c1 h4c]; first | (rw [decide_eq_false h33]; rfl) | (rw [hb38]; simp) | (rw [decide_eq_false h17]; simp)))
            · refine gx_if_ne_f (tgt := 51) hX dX1_lowestReady_41 (by decide) rfl (by decide) ?_
              refine gx_iload hX 0 dX1_lowestReady_44 rfl rfl ?_
              refine gx_if_eq_f (tgt := 51) hX dX1_lowestReady_46 (by decide) rfl (by decide) ?_
              refine gx_iload_n hX 4 dX1_lowestReady_49 rfl rfl ?_
              refine gx_iret hC dX1_lowestReady_50 ?_
              have hq : qnx g A = c1 := qfst_at h4c hno (by unfold qrdy; rw [← d4 c1 h4c, ← d2 c1 h4c]; rw [decide_eq_true h33, decide_eq_true h17]; cases e : qt A c1; rfl; exact absurd e hb38)
              rw [hq]
              exact ⟨rfl, Or.inl ⟨rfl, h4c⟩⟩
  exact gx_sub [1, 2, 3, 0] rfl (L2 (qn g + 1) 0 (by omega) (by omega) (fun j hj => absurd hj (Nat.not_lt_zero j)))

set_option maxRecDepth 100000 in
set_option maxHeartbeats 4000000 in
theorem c_X1_buildRunOrder (l : Launch) (Y : gL) (go : Nat) (σ : gS) (g : qG) (hG : zLG Y go) (hn : qn g ≤ 12) (d2 : ∀ i, i < qn g → σ.1 (gF Y go 2) i = qdir g i) (d4 : ∀ i, i < qn g → σ.1 (gF Y go 4) i = qw g i) : gM l yX1_buildRunOrder cX1_buildRunOrder 5 none (gRm 2 45) Y [.ref go, .int (nI (qn g))] σ (gV fun τ => gEq Y [2, 10] σ τ ∧ τ.1 go 6 = nI (qm g) ∧ ∀ k, k < qm g → τ.1 (gF Y go 5) k = nI (qo g k)) := by
  refine gM.of (by decide) rfl ?_
  intro p e s m args below meth c hC
  have hX := hC.1
  refine gx_iconst (v := 0) hX dX1_buildRunOrder_0 rfl (by decide) ?_
  refine gx_istore_n (lv' := [(2, .int 0), (0, .ref go), (1, .int (nI (qn g)))]) hX dX1_buildRunOrder_1 rfl (by decide) rfl ?_
  refine gx_aload_n hX 1 dX1_buildRunOrder_2 rfl rfl ?_
  refine gx_iconst (v := 0) hX dX1_buildRunOrder_3 rfl (by decide) ?_
  refine gx_put (τ := uI σ go 6 0) hC 6 inlX1 tyX1_ok nmX1 wf_RX1_30 rfl hG.1 rfl rfl (by simp [gE, uI]) (fun b hb => gEnt_I hb) rfl rfl rfl rfl rfl rfl rfl dX1_buildRunOrder_4 rfl ?_
  refine gx_iconst (v := 0) hX dX1_buildRunOrder_7 rfl (by decide) ?_
  refine gx_istore_n (lv' := [(3, .int 0), (2, .int 0), (0, .ref go), (1, .int (nI (qn g)))]) hX dX1_buildRunOrder_8 rfl (by decide) rfl ?_
  have L9 : ∀ (k9 : Nat) (k : Nat) (f : Nat → Nat → Int32), qn g - k < k9 → (k ≤ qn g) → (gEq Y [2, 10] σ (f, σ.2)) → (f go 6 = nI k) → (∀ j, j < k → f (gF Y go 5) j = nI (qo g j)) → (∀ j, j < k → qo g j < qn g) → gG p l e (gRm 2 45) s m args below meth c Y (gV fun τ => gEq Y [2, 10] σ τ ∧ τ.1 go 6 = nI (qm g) ∧ ∀ k, k < qm g → τ.1 (gF Y go 5) k = nI (qo g k)) (f, σ.2) 9 [(0, .ref go), (1, .int (nI (qn g))), (2, .int (qpl g k)), (3, .int (nI k))] [] := by
    intro k9
    induction k9 with
    | zero => intro k f hk9; exact absurd hk9 (Nat.not_lt_zero _)
    | succ k9 ih9 =>
      intro k f hk9 hk he h6 hod hall
      have d2f : ∀ i, i < qn g → f (gF Y go 2) i = qdir g i := by rw [show f (gF Y go 2) = σ.1 (gF Y go 2) from he.at (hG.2.2.2.1) (by decide)]; exact d2
      have d4f : ∀ i, i < qn g → f (gF Y go 4) i = qw g i := by rw [show f (gF Y go 4) = σ.1 (gF Y go 4) from he.at (hG.2.2.2.2.2.1) (by decide)]; exact d4
      refine gx_iload_n hX 3 dX1_buildRunOrder_9 rfl rfl ?_
      refine gx_iload_n hX 1 dX1_buildRunOrder_10 rfl rfl ?_
      refine gx_nat_ge (i := k) (j := qn g) (tgt := 57) hX dX1_buildRunOrder_11 (by decide) rfl rfl rfl (by omega) (by omega) (fun h11 => ?_) (fun h11 => ?_)
      · refine gx_vret hC dX1_buildRunOrder_57 ?_
        have hqk : qo g k = qn g := zqo_end hn hall h11
        have hqm : qm g = k := qm_at hn hall hqk
        rw [hqm]
        exact ⟨he, h6, hod⟩
      · refine gx_aload_n hX 0 dX1_buildRunOrder_14 rfl rfl ?_
        refine gx_iload_n hX 1 dX1_buildRunOrder_15 rfl rfl ?_
        refine gx_iload_n hX 2 dX1_buildRunOrder_16 rfl rfl ?_
        refine gx_callV (As := [.int (nI (qn g)), .int (qpl g k)]) (st := []) hC (c_X1_lowestReady l Y go (f, σ.2) g hG hn d2f d4f (qpl g k)) kX1_lowestReady wm_RX1_106 rfl hG.1 rfl rfl rfl rfl rfl dX1_buildRunOrder_17 rfl (gx_ki fun r17 τ17 hq17 => ?_)
        obtain ⟨rfl, ⟨rfl, hb17⟩ | ⟨rfl, hb17⟩⟩ := hq17
        · have hqk : qo g k < qn g := hb17
          refine gx_istore (lv' := [(4, .int (nI (qo g k))), (0, .ref go), (1, .int (nI (qn g))), (2, .int (qpl g k)), (3, .int (nI k))]) hX dX1_buildRunOrder_20 rfl (by decide) rfl ?_
          refine gx_iload hX 0 dX1_buildRunOrder_22 rfl rfl ?_
          refine gx_iconst (v := (-1)) hX dX1_buildRunOrder_24 rfl (by decide) ?_
          refine gx_icmp_ne_t (tgt := 29) hX dX1_buildRunOrder_25 (by decide) (nI_neg (by omega) (by decide)) ?_
          refine gx_aload_n hX 1 dX1_buildRunOrder_29 rfl rfl ?_
          refine gx_get hC 5 inlX1 wf_RX1_27 rfl hG.1 rfl rfl rfl rfl dX1_buildRunOrder_30 rfl ?_
          refine gx_iload_n hX 4 dX1_buildRunOrder_33 rfl rfl ?_
          refine gx_iload hX 0 dX1_buildRunOrder_34 rfl rfl ?_
          refine gx_iast (i := k) hC hG.2.2.2.2.2.2 rfl rfl rfl rfl (by omega) rfl dX1_buildRunOrder_36 rfl ?_
          refine gx_aload_n hX 1 dX1_buildRunOrder_37 rfl rfl ?_
          refine gx_iload_n hX 4 dX1_buildRunOrder_38 rfl rfl ?_
          refine gx_iconst (v := 1) hX dX1_buildRunOrder_39 rfl (by decide) ?_
          refine gx_iaddN (i := k) (j := 1) hX dX1_buildRunOrder_40 rfl rfl rfl ?_
          refine gx_put (τ := uI (uI (f, σ.2) (gF Y go 5) k (nI (qo g k))) go 6 (nI (k + 1))) hC 6 inlX1 tyX1_ok nmX1 wf_RX1_30 rfl hG.1 rfl rfl (by simp [gE, uI]) (fun b hb => gEnt_I hb) rfl rfl rfl rfl rfl rfl rfl dX1_buildRunOrder_41 rfl ?_
          refine gx_iload_n hX 3 dX1_buildRunOrder_44 rfl rfl ?_
          refine gx_iconst (v := 1) hX dX1_buildRunOrder_45 rfl (by decide) ?_
          refine gx_iload hX 0 dX1_buildRunOrder_46 rfl rfl ?_
          refine gx_ishl hX dX1_buildRunOrder_48 rfl ?_
          refine gx_ior hX dX1_buildRunOrder_49 rfl ?_
          refine gx_topi (b := (qpl g (k + 1))) rfl ?_
          refine gx_istore_n (lv' := [(2, .int (qpl g (k + 1))), (4, .int (nI (qo g k))), (0, .ref go), (1, .int (nI (qn g))), (3, .int (nI k))]) hX dX1_buildRunOrder_50 rfl (by decide) rfl ?_
          refine gx_iinc (w := (nI (k + 1))) (lv' := [(3, .int (nI (k + 1))), (2, .int (qpl g (k + 1))), (4, .int (nI (qo g k))), (0, .ref go), (1, .int (nI (qn g)))]) hX 4 dX1_buildRunOrder_51 rfl rfl (nI_add _ _) (by decide) rfl ?_
          refine gx_goto (pc' := 9) hX dX1_buildRunOrder_54 (by decide) ?_
          exact gx_sub [3, 4, 1, 0] rfl (ih9 (k + 1) (uI (uI (f, σ.2) (gF Y go 5) k (nI (qo g k))) go 6 (nI (k + 1))).1 (by omega) (by omega) ((he.put (hG.2.2.2.2.2.2) (by decide)).put hG.1 (by decide)) uI_at (fun j hj => (congrFun (uI_ne (gK_ne (hG.2.2.2.2.2.2) hG.1 (by decide))) j).trans (uI_rng (P := fun j => nI (qo g j)) hod rfl j hj)) (fun j hj => by rcases Nat.lt_or_ge j k with q | q; exact hall j q; rw [show j = k by omega]; exact hqk))
        · have hqk : qo g k = qn g := hb17
          refine gx_istore (lv' := [(4, .int (-1)), (0, .ref go), (1, .int (nI (qn g))), (2, .int (qpl g k)), (3, .int (nI k))]) hX dX1_buildRunOrder_20 rfl (by decide) rfl ?_
          refine gx_iload hX 0 dX1_buildRunOrder_22 rfl rfl ?_
          refine gx_iconst (v := (-1)) hX dX1_buildRunOrder_24 rfl (by decide) ?_
          refine gx_icmp_ne_f (tgt := 29) hX dX1_buildRunOrder_25 (by decide) rfl (by decide) ?_
          refine gx_vret hC dX1_buildRunOrder_28 ?_
          have hqm : qm g = k := qm_at hn hall hqk
          rw [hqm]
          exact ⟨he, h6, hod⟩
  exact gx_sub [2, 3, 1, 0] rfl (L9 (qn g + 1) 0 (uI σ go 6 0).1 (by omega) (by omega) (gEq.rf.put hG.1 (by decide)) uI_at (fun v hv => absurd hv (Nat.not_lt_zero v)) (fun v hv => absurd hv (Nat.not_lt_zero v)))

set_option maxRecDepth 100000 in
set_option maxHeartbeats 4000000 in
theorem c_X1_derive (l : Launch) (Y : gL) (go : Nat) (σ : gS) (g : qG) (hG : zLG Y go) (hn : qn g ≤ 12) (t : Nat) (hS : zLS Y) (ht : gK Y t = 11) (hc : zCs Y σ.2.1 t) (hD : zD Y σ t g) : gM l yX1_derive cX1_derive 2 none (gRm 5 107) Y [.ref go, .ref t] σ (gV fun τ => gEq Y [2, 5, 6, 7, 8, 9, 10] σ τ ∧ zG Y τ go g) := by
  refine gM.of (by decide) rfl ?_
  intro p e s m args below meth c hC
  have hX := hC.1
  refine gx_aload_n hX 0 dX1_derive_0 rfl rfl ?_
  refine gx_aload_n hX 1 dX1_derive_1 rfl rfl ?_
  refine gx_callV (As := [.ref t]) (st := []) hC (c_X1_findDefiners l Y go σ g hG hn t hS ht hc hD) kX1_findDefiners wm_RX1_37 rfl hG.1 rfl rfl rfl rfl rfl dX1_derive_2 rfl (gx_kv fun τ2 hq2 => ?_)
  obtain ⟨f2, w2⟩ := τ2
  obtain rfl : w2 = σ.2 := hq2.1.1
  have hD2 := hD.eq ht hc hq2.1 (by decide) (by decide)
  refine gx_aload_n hX 0 dX1_derive_5 rfl rfl ?_
  refine gx_aload_n hX 1 dX1_derive_6 rfl rfl ?_
  refine gx_callV (As := [.ref t]) (st := []) hC (c_X1_findDependencies l Y go (f2, σ.2) g hG hn hq2.2.2 t hS ht hc hD2) kX1_findDependencies wm_RX1_41 rfl hG.1 rfl rfl rfl rfl rfl dX1_derive_7 rfl (gx_kv fun τ7 hq7 => ?_)
  obtain ⟨f7, w7⟩ := τ7
  obtain rfl : w7 = σ.2 := hq7.1.1
  have hD7 := hD2.eq ht hc hq7.1 (by decide) (by decide)
  refine gx_aload_n hX 0 dX1_derive_10 rfl rfl ?_
  refine gx_aload_n hX 1 dX1_derive_11 rfl rfl ?_
  refine gx_get hC 1 inlX2 wf_RX1_44 rfl ht rfl rfl rfl rfl dX1_derive_12 rfl ?_
  refine gx_topi (b := (nI (qn g))) hD7.2.1 ?_
  refine gx_callV (As := [.int (nI (qn g))]) (st := []) hC (c_X1_closeDependencies l Y go (f7, σ.2) g hG hn hq7.2) kX1_closeDependencies wm_RX1_49 rfl hG.1 rfl rfl rfl rfl rfl dX1_derive_15 rfl (gx_kv fun τ15 hq15 => ?_)
  obtain ⟨f15, w15⟩ := τ15
  obtain rfl : w15 = σ.2 := hq15.1.1
  have hD15 := hD7.eq ht hc hq15.1 (by decide) (by decide)
  have a0 : ∀ v, v < 10 → f15 (gF Y go 0) v = qdf g (nI v) := by rw [show f15 (gF Y go 0) = f7 (gF Y go 0) from hq15.1.at (hG.2.1) (by decide), show f7 (gF Y go 0) = f2 (gF Y go 0) from hq7.1.at (hG.2.1) (by decide)]; exact hq2.2.1
  have a1 : ∀ v, v < 10 → f15 (gF Y go 1) v = zk (qonl (qdf g (nI v))) := by rw [show f15 (gF Y go 1) = f7 (gF Y go 1) from hq15.1.at (hG.2.2.1) (by decide), show f7 (gF Y go 1) = f2 (gF Y go 1) from hq7.1.at (hG.2.2.1) (by decide)]; exact hq2.2.2
  refine gx_aload_n hX 0 dX1_derive_18 rfl rfl ?_
  refine gx_aload_n hX 1 dX1_derive_19 rfl rfl ?_
  refine gx_callV (As := [.ref t]) (st := []) hC (c_X1_findStaticErrors l Y go (f15, σ.2) g hG hn a0 a1 hq15.2 t hS ht hc hD15) kX1_findStaticErrors wm_RX1_53 rfl hG.1 rfl rfl rfl rfl rfl dX1_derive_20 rfl (gx_kv fun τ20 hq20 => ?_)
  obtain ⟨f20, w20⟩ := τ20
  obtain rfl : w20 = σ.2 := hq20.1.1
  have hD20 := hD15.eq ht hc hq20.1 (by decide) (by decide)
  have a2 : ∀ i, i < qn g → f20 (gF Y go 2) i = qdir g i := by rw [show f20 (gF Y go 2) = f15 (gF Y go 2) from hq20.1.at (hG.2.2.2.1) (by decide), show f15 (gF Y go 2) = f7 (gF Y go 2) from hq15.1.at (hG.2.2.2.1) (by decide)]; exact hq7.2
  refine gx_aload_n hX 0 dX1_derive_23 rfl rfl ?_
  refine gx_aload_n hX 1 dX1_derive_24 rfl rfl ?_
  refine gx_get hC 1 inlX2 wf_RX1_44 rfl ht rfl rfl rfl rfl dX1_derive_25 rfl ?_
  refine gx_topi (b := (nI (qn g))) hD20.2.1 ?_
  refine gx_callV (As := [.int (nI (qn g))]) (st := []) hC (c_X1_buildRunOrder l Y go (f20, σ.2) g hG hn a2 hq20.2) kX1_buildRunOrder wm_RX1_56 rfl hG.1 rfl rfl rfl rfl rfl dX1_derive_28 rfl (gx_kv fun τ28 hq28 => ?_)
  obtain ⟨f28, w28⟩ := τ28
  obtain rfl : w28 = σ.2 := hq28.1.1
  refine gx_vret hC dX1_derive_31 ?_
  refine ⟨((((hq2.1.mono (by decide)).tr (hq7.1.mono (by decide))).tr (hq15.1.mono (by decide))).tr (hq20.1.mono (by decide))).tr (hq28.1.mono (by decide)), ?_, ?_, ?_, ?_, ?_, hq28.2.1, hq28.2.2⟩
  · rw [hq28.1.at (hG.2.1) (by decide), hq20.1.at (hG.2.1) (by decide)]; exact a0
  · rw [hq28.1.at (hG.2.2.1) (by decide), hq20.1.at (hG.2.2.1) (by decide)]; exact a1
  · rw [hq28.1.at (hG.2.2.2.1) (by decide)]; exact a2
  · rw [hq28.1.at (hG.2.2.2.2.1) (by decide), hq20.1.at (hG.2.2.2.2.1) (by decide)]; exact hq15.2
  · rw [hq28.1.at (hG.2.2.2.2.2.1) (by decide)]; exact hq20.2
