set_option maxRecDepth 100000 in
set_option maxHeartbeats 4000000 in
theorem c_X4_in (l : Launch) (Y : gL) (σ : gS) (v lo hi : Int32) : gM l yX4_in cX4_in 3 (some .boolean) (gRm 0 0) Y [.int v, .int lo, .int hi] σ (gI fun r τ => σ = τ ∧ ((r = 1 ∧ (¬ v < lo ∧ ¬ hi < v)) ∨ (r = 0 ∧ ¬ (¬ v < lo ∧ ¬ hi < v)))) := by
  refine gM.of (by decide) rfl ?_
  intro p e s m args below meth c hC
  have hX := hC.1
  refine gx_iload_n hX 0 dX4_in_0 rfl rfl ?_
  refine gx_iload_n hX 1 dX4_in_1 rfl rfl ?_
  refine gx_icmp_lt (tgt := 14) hX dX4_in_2 (by decide) rfl (fun h2 => ?_) (fun h2 => ?_)
  · refine gx_iconst (v := 0) hX dX4_in_14 rfl (by decide) ?_
    exact gx_zret hC rfl dX4_in_15 (⟨rfl, by simp_all⟩)
  · refine gx_iload_n hX 0 dX4_in_5 rfl rfl ?_
    refine gx_iload_n hX 2 dX4_in_6 rfl rfl ?_
    refine gx_icmp_gt (tgt := 14) hX dX4_in_7 (by decide) rfl (fun h7 => ?_) (fun h7 => ?_)
    · refine gx_iconst (v := 0) hX dX4_in_14 rfl (by decide) ?_
      exact gx_zret hC rfl dX4_in_15 (⟨rfl, by simp_all⟩)
    · refine gx_iconst (v := 1) hX dX4_in_10 rfl (by decide) ?_
      refine gx_goto (pc' := 15) hX dX4_in_11 (by decide) ?_
      exact gx_zret hC rfl dX4_in_15 (⟨rfl, by simp_all⟩)

set_option maxRecDepth 100000 in
set_option maxHeartbeats 4000000 in
theorem c_X4_at (l : Launch) (Y : gL) (σ : gS) (i j : Nat) : gM l yX4_at cX4_at 2 (some .int) (gRm 0 0) Y [.int (nI i), .int (nI j)] σ (gI fun r τ => σ = τ ∧ nI (17 + 10 * i + j) = r) := by
  refine gM.of (by decide) rfl ?_
  intro p e s m args below meth c hC
  have hX := hC.1
  refine gx_bipush (v := 17) hX dX4_at_0 rfl (by decide) ?_
  refine gx_bipush (v := 10) hX dX4_at_2 rfl (by decide) ?_
  refine gx_iload_n hX 0 dX4_at_4 rfl rfl ?_
  refine gx_imulN (i := 10) (j := i) hX dX4_at_5 rfl rfl rfl ?_
  refine gx_iaddN (i := 17) (j := 10 * i) hX dX4_at_6 rfl rfl rfl ?_
  refine gx_iload_n hX 1 dX4_at_7 rfl rfl ?_
  refine gx_iaddN (i := 17 + (10 * i)) (j := j) hX dX4_at_8 rfl rfl rfl ?_
  exact gx_iret hC dX4_at_9 (⟨rfl, rfl⟩)

set_option maxRecDepth 100000 in
set_option maxHeartbeats 4000000 in
theorem c_X4_get (l : Launch) (Y : gL) (mo : Nat) (σ : gS) (r : Nat → Int32) (i j : Nat) (hM : gLM Y mo) (hr : σ.1 (gF Y mo 0) = r) (hij : 17 + 10 * i + j < 137) : gM l yX4_get cX4_get 3 (some .int) (gRm 1 21) Y [.ref mo, .int (nI i), .int (nI j)] σ (gI fun v τ => σ = τ ∧ r (17 + 10 * i + j) = v) := by
  refine gM.of (by decide) rfl ?_
  intro p e s m args below meth c hC
  have hX := hC.1
  refine gx_aload_n hX 0 dX4_get_0 rfl rfl ?_
  refine gx_get hC 0 inlX4 wf_RX4_7 rfl (gM0 hM) rfl rfl rfl rfl dX4_get_1 rfl ?_
  refine gx_iload_n hX 1 dX4_get_4 rfl rfl ?_
  refine gx_iload_n hX 2 dX4_get_5 rfl rfl ?_
  refine gx_callS (As := [.int (nI i), .int (nI j)]) (st := [.ref (gF Y mo 0)]) hC (c_X4_at l Y σ i j) kX4_at wm_RX4_38 rfl rfl rfl rfl dX4_get_6 rfl (gx_ki fun r6 τ6 hq6 => ?_)
  obtain ⟨rfl, rfl⟩ := hq6
  refine gx_iald (i := 17 + 10 * i + j) hC (gM1 hM) rfl rfl (by omega) rfl dX4_get_9 rfl ?_
  exact gx_iret hC dX4_get_10 (⟨rfl, by rw [hr]⟩)

set_option maxRecDepth 100000 in
set_option maxHeartbeats 4000000 in
theorem c_X4_isCell (l : Launch) (Y : gL) (mo : Nat) (σ : gS) (r : Nat → Int32) (n : Nat) (hM : gLM Y mo) (hr : gRow Y mo σ r n) (x : Int32) : gM l yX4_isCell cX4_isCell 2 (some .boolean) (gRm 1 22) Y [.ref mo, .int x] σ (gI fun v τ => σ = τ ∧ ((v = 1 ∧ ∃ j, j < n ∧ x = nI j) ∨ (v = 0 ∧ ¬ ∃ j, j < n ∧ x = nI j))) := by
  have hr1 := hr.1
  have hr2 := hr.2.1
  have hr3 := hr.2.2
  refine gM.of (by decide) rfl ?_
  intro p e s m args below meth c hC
  have hX := hC.1
  refine gx_iload_n hX 1 dX4_isCell_0 rfl rfl ?_
  refine gx_iconst (v := 0) hX dX4_isCell_1 rfl (by decide) ?_
  refine gx_aload_n hX 0 dX4_isCell_2 rfl rfl ?_
  refine gx_get hC 0 inlX4 wf_RX4_7 rfl (gM0 hM) rfl rfl rfl rfl dX4_isCell_3 rfl ?_
  refine gx_iconst (v := 0) hX dX4_isCell_6 rfl (by decide) ?_
  refine gx_iald (i := 0) hC (gM1 hM) rfl rfl (by omega) rfl dX4_isCell_7 rfl ?_
  refine gx_topi (b := (nI n)) (by rw [hr1]; exact hr2) ?_
  refine gx_iconst (v := 1) hX dX4_isCell_8 rfl (by decide) ?_
  refine gx_isub hX dX4_isCell_9 rfl ?_
  refine gx_callS (As := [.int x, .int 0, .int ((nI n) - 1)]) (st := []) hC (c_X4_in l Y σ x 0 ((nI n) - 1)) kX4_in wm_RX4_42 rfl rfl rfl rfl dX4_isCell_10 rfl (gx_ki fun r10 τ10 hq10 => ?_)
  obtain ⟨rfl, ⟨rfl, hb10⟩ | ⟨rfl, hb10⟩⟩ := hq10
  · exact gx_zret hC rfl dX4_isCell_13 (⟨rfl, by rw [← qicell hr3]; simp_all⟩)
  · exact gx_zret hC rfl dX4_isCell_13 (⟨rfl, by rw [← qicell hr3]; simp_all⟩)

set_option maxRecDepth 100000 in
set_option maxHeartbeats 4000000 in
theorem c_X4_error (l : Launch) (Y : gL) (mo : Nat) (σ : gS) (k : Nat) (x : Int32) (hM : gLM Y mo) (hk : k < 3) (hx : -10002 - x = nI k) : gM l yX4_error cX4_error 2 (some .int) (gRm 0 0) Y [.ref mo, .int x] σ (gI fun v τ => x = v ∧ uI σ (gF Y mo 3) k (σ.1 (gF Y mo 3) k + 1) = τ) := by
  refine gM.of (by decide) rfl ?_
  intro p e s m args below meth c hC
  have hX := hC.1
  refine gx_aload_n hX 0 dX4_error_0 rfl rfl ?_
  refine gx_get hC 3 inlX4 wf_RX4_16 rfl (gM0 hM) rfl rfl rfl rfl dX4_error_1 rfl ?_
  refine gx_sipush (v := (-10002)) hX dX4_error_4 rfl (by decide) ?_
  refine gx_iload_n hX 1 dX4_error_7 rfl rfl ?_
  refine gx_isub hX dX4_error_8 rfl ?_
  refine gx_topi (b := (nI k)) hx ?_
  refine gx_dup2 hX dX4_error_9 rfl rfl rfl ?_
  refine gx_iald (i := k) hC (gM3 hM) rfl rfl (by omega) rfl dX4_error_10 rfl ?_
  refine gx_iconst (v := 1) hX dX4_error_11 rfl (by decide) ?_
  refine gx_iadd hX dX4_error_12 rfl ?_
  refine gx_iast (i := k) hC (gM3 hM) rfl rfl rfl rfl (by omega) rfl dX4_error_13 rfl ?_
  refine gx_iload_n hX 1 dX4_error_14 rfl rfl ?_
  exact gx_iret hC dX4_error_15 (⟨rfl, rfl⟩)

set_option maxRecDepth 100000 in
set_option maxHeartbeats 4000000 in
theorem c_X4_definersOf (l : Launch) (Y : gL) (mo : Nat) (σ : gS) (r : Nat → Int32) (n : Nat) (hM : gLM Y mo) (hr : gRow Y mo σ r n) (x : Int32) : gM l yX4_definersOf cX4_definersOf 4 (some .int) (gRm 2 43) Y [.ref mo, .int x] σ (gI fun v τ => σ = τ ∧ qdf (qg r n) x = v) := by
  have hr1 := hr.1
  have hr2 := hr.2.1
  have hr3 := hr.2.2
  refine gM.of (by decide) rfl ?_
  intro p e s m args below meth c hC
  have hX := hC.1
  refine gx_iconst (v := 0) hX dX4_definersOf_0 rfl (by decide) ?_
  refine gx_istore_n (lv' := [(2, .int 0), (0, .ref mo), (1, .int x)]) hX dX4_definersOf_1 rfl (by decide) rfl ?_
  refine gx_iconst (v := 0) hX dX4_definersOf_2 rfl (by decide) ?_
  refine gx_istore_n (lv' := [(3, .int 0), (2, .int 0), (0, .ref mo), (1, .int x)]) hX dX4_definersOf_3 rfl (by decide) rfl ?_
  have L4 : ∀ (k4 : Nat) (i : Nat), n - i < k4 → (i ≤ n) → gG p l e (gRm 2 43) s m args below meth c Y (gI fun v τ => σ = τ ∧ qdf (qg r n) x = v) σ 4 [(0, .ref mo), (1, .int x), (2, .int (qdfn (qV (qg r n)) x i)), (3, .int (nI i))] [] := by
    intro k4
    induction k4 with
    | zero => intro i hk4; exact absurd hk4 (Nat.not_lt_zero _)
    | succ k4 ih4 =>
      intro i hk4 hi
      refine gx_iload_n hX 3 dX4_definersOf_4 rfl rfl ?_
      refine gx_aload_n hX 0 dX4_definersOf_5 rfl rfl ?_
      refine gx_get hC 0 inlX4 wf_RX4_7 rfl (gM0 hM) rfl rfl rfl rfl dX4_definersOf_6 rfl ?_
      refine gx_iconst (v := 0) hX dX4_definersOf_9 rfl (by decide) ?_
      refine gx_iald (i := 0) hC (gM1 hM) rfl rfl (by omega) rfl dX4_definersOf_10 rfl ?_
      refine gx_topi (b := (nI n)) (by rw [hr1]; exact hr2) ?_
      refine gx_nat_ge (i := i) (j := n) (tgt := 40) hX dX4_definersOf_11 (by decide) rfl rfl rfl (by omega) (by omega) (fun h11 => ?_) (fun h11 => ?_)
      · refine gx_iload_n hX 2 dX4_definersOf_40 rfl rfl ?_
        exact gx_iret hC dX4_definersOf_41 (⟨rfl, by rw [show i = n by omega]; rfl⟩)
      · refine gx_iload_n hX 2 dX4_definersOf_14 rfl rfl ?_
        refine gx_aload_n hX 0 dX4_definersOf_15 rfl rfl ?_
        refine gx_iload_n hX 3 dX4_definersOf_16 rfl rfl ?_
        refine gx_iconst (v := 0) hX dX4_definersOf_17 rfl (by decide) ?_
        refine gx_callV (As := [.int (nI i), .int 0]) (st := [.int (qdfn (qV (qg r n)) x i)]) hC (c_X4_get l Y mo σ r i 0 hM hr.1 (by omega)) kX4_get wm_RX4_50 rfl (gM0 hM) rfl rfl rfl rfl rfl dX4_definersOf_18 rfl (gx_ki fun r18 τ18 hq18 => ?_)
        obtain ⟨rfl, rfl⟩ := hq18
        refine gx_iload_n hX 1 dX4_definersOf_21 rfl rfl ?_
        refine gx_icmp_ne (tgt := 31) hX dX4_definersOf_22 (by decide) rfl (fun h22 => ?_) (fun h22 => ?_)
        · refine gx_iconst (v := 0) hX dX4_definersOf_31 rfl (by decide) ?_
          refine gx_ior hX dX4_definersOf_32 rfl ?_
          refine gx_topi (b := (qdfn (qV (qg r n)) x (i + 1))) (by rw [qdfn]; show _ = _ ||| (if r (17 + 10 * i + 0) = x then qb i else 0); first | (rw [if_pos h22]; rfl) | (rw [if_neg h22])) ?_
          refine gx_istore_n (lv' := [(2, .int (qdfn (qV (qg r n)) x (i + 1))), (0, .ref mo), (1, .int x), (3, .int (nI i))]) hX dX4_definersOf_33 rfl (by decide) rfl ?_
          refine gx_iinc (w := (nI (i + 1))) (lv' := [(3, .int (nI (i + 1))), (2, .int (qdfn (qV (qg r n)) x (i + 1))), (0, .ref mo), (1, .int x)]) hX 3 dX4_definersOf_34 rfl rfl (nI_add _ _) (by decide) rfl ?_
          refine gx_goto (pc' := 4) hX dX4_definersOf_37 (by decide) ?_
          exact gx_sub [2, 3, 1, 0] rfl (ih4 (i + 1) (by omega) (by omega))
        · refine gx_iconst (v := 1) hX dX4_definersOf_25 rfl (by decide) ?_
          refine gx_iload_n hX 3 dX4_definersOf_26 rfl rfl ?_
          refine gx_ishl hX dX4_definersOf_27 rfl ?_
          refine gx_goto (pc' := 32) hX dX4_definersOf_28 (by decide) ?_
          refine gx_ior hX dX4_definersOf_32 rfl ?_
          refine gx_topi (b := (qdfn (qV (qg r n)) x (i + 1))) (by rw [qdfn]; show _ = _ ||| (if r (17 + 10 * i + 0) = x then qb i else 0); first | (rw [if_pos h22]; rfl) | (rw [if_neg h22])) ?_
          refine gx_istore_n (lv' := [(2, .int (qdfn (qV (qg r n)) x (i + 1))), (0, .ref mo), (1, .int x), (3, .int (nI i))]) hX dX4_definersOf_33 rfl (by decide) rfl ?_
          refine gx_iinc (w := (nI (i + 1))) (lv' := [(3, .int (nI (i + 1))), (2, .int (qdfn (qV (qg r n)) x (i + 1))), (0, .ref mo), (1, .int x)]) hX 3 dX4_definersOf_34 rfl rfl (nI_add _ _) (by decide) rfl ?_
          refine gx_goto (pc' := 4) hX dX4_definersOf_37 (by decide) ?_
          exact gx_sub [2, 3, 1, 0] rfl (ih4 (i + 1) (by omega) (by omega))
  exact gx_sub [2, 3, 1, 0] rfl (L4 (n + 1) 0 (by omega) (by omega))

set_option maxRecDepth 100000 in
set_option maxHeartbeats 4000000 in
theorem c_X4_only (l : Launch) (Y : gL) (σ : gS) (x : Int32) : gM l yX4_only cX4_only 2 (some .int) (gRm 0 0) Y [.int x] σ (gI fun v τ => σ = τ ∧ ((nI (qonl x) = v ∧ qonl x < 12) ∨ (-10001 = v ∧ qonl x = 12))) := by
  refine gM.of (by decide) rfl ?_
  intro p e s m args below meth c hC
  have hX := hC.1
  refine gx_iconst (v := 0) hX dX4_only_0 rfl (by decide) ?_
  refine gx_istore_n (lv' := [(1, .int 0), (0, .int x)]) hX dX4_only_1 rfl (by decide) rfl ?_
  have L2 : ∀ (k2 : Nat) (i : Nat), 12 - i < k2 → (i ≤ 12) → (∀ j, j < i → ¬ x = qb j) → gG p l e (gRm 0 0) s m args below meth c Y (gI fun v τ => σ = τ ∧ ((nI (qonl x) = v ∧ qonl x < 12) ∨ (-10001 = v ∧ qonl x = 12))) σ 2 [(0, .int x), (1, .int (nI i))] [] := by
    intro k2
    induction k2 with
    | zero => intro i hk2; exact absurd hk2 (Nat.not_lt_zero _)
    | succ k2 ih2 =>
      intro i hk2 hi hno
      refine gx_iload_n hX 1 dX4_only_2 rfl rfl ?_
      refine gx_bipush (v := 12) hX dX4_only_3 rfl (by decide) ?_
      refine gx_nat_ge (i := i) (j := 12) (tgt := 23) hX dX4_only_5 (by decide) rfl rfl rfl (by omega) (by omega) (fun h5 => ?_) (fun h5 => ?_)
      · refine gx_sipush (v := (-10001)) hX dX4_only_23 rfl (by decide) ?_
        exact gx_iret hC dX4_only_26 (⟨rfl, Or.inr ⟨rfl, qonl_none (fun j hj => hno j (by omega))⟩⟩)
      · refine gx_iload_n hX 0 dX4_only_8 rfl rfl ?_
        refine gx_iconst (v := 1) hX dX4_only_9 rfl (by decide) ?_
        refine gx_iload_n hX 1 dX4_only_10 rfl rfl ?_
        refine gx_ishl hX dX4_only_11 rfl ?_
        refine gx_icmp_ne (tgt := 17) hX dX4_only_12 (by decide) rfl (fun h12 => ?_) (fun h12 => ?_)
        · refine gx_iinc (w := (nI (i + 1))) (lv' := [(1, .int (nI (i + 1))), (0, .int x)]) hX 1 dX4_only_17 rfl rfl (nI_add _ _) (by decide) rfl ?_
          refine gx_goto (pc' := 2) hX dX4_only_20 (by decide) ?_
          exact gx_sub [1, 0] rfl (ih2 (i + 1) (by omega) (by omega) (fun j hj => by rcases Nat.lt_or_ge j i with q | q; exact hno j q; rw [show j = i by omega]; exact h12))
        · refine gx_iload_n hX 1 dX4_only_15 rfl rfl ?_
          exact gx_iret hC dX4_only_16 (⟨rfl, Or.inl (by have e : qonl x = i := qonl_at (by omega) h12; rw [e]; exact ⟨rfl, by omega⟩)⟩)
  exact gx_sub [1, 0] rfl (L2 13 0 (by omega) (by omega) (fun j hj => absurd hj (Nat.not_lt_zero j)))

set_option maxRecDepth 100000 in
set_option maxHeartbeats 4000000 in
theorem c_X4_source (l : Launch) (Y : gL) (mo : Nat) (σ : gS) (r : Nat → Int32) (n : Nat) (hM : gLM Y mo) (hr : gRow Y mo σ r n) (x : Int32) : gM l yX4_source cX4_source 2 (some .int) (gRm 3 66) Y [.ref mo, .int x] σ (gI fun v τ => σ = τ ∧ ((nI (qsrc (qg r n) x) = v ∧ qsrc (qg r n) x < 12) ∨ (-10001 = v ∧ qsrc (qg r n) x = 12))) := by
  have hr1 := hr.1
  have hr2 := hr.2.1
  have hr3 := hr.2.2
  refine gM.of (by decide) rfl ?_
  intro p e s m args below meth c hC
  have hX := hC.1
  refine gx_iload_n hX 1 dX4_source_0 rfl rfl ?_
  refine gx_bipush (v := 100) hX dX4_source_1 rfl (by decide) ?_
  refine gx_icmp_ge (tgt := 12) hX dX4_source_3 (by decide) rfl (fun h3 => ?_) (fun h3 => ?_)
  · refine gx_aload_n hX 0 dX4_source_12 rfl rfl ?_
    refine gx_iload_n hX 1 dX4_source_13 rfl rfl ?_
    refine gx_bipush (v := 100) hX dX4_source_14 rfl (by decide) ?_
    refine gx_isub hX dX4_source_16 rfl ?_
    refine gx_callV (As := [.int (x - 100)]) (st := []) hC (c_X4_definersOf l Y mo σ r n hM hr (x - 100)) kX4_definersOf wm_RX4_53 rfl (gM0 hM) rfl rfl rfl rfl rfl dX4_source_17 rfl (gx_ki fun r17 τ17 hq17 => ?_)
    obtain ⟨rfl, rfl⟩ := hq17
    refine gx_callS (As := [.int (qdf (qg r n) (x - 100))]) (st := []) hC (c_X4_only l Y σ ((qdf (qg r n) (x - 100)))) kX4_only wm_RX4_57 rfl rfl rfl rfl dX4_source_20 rfl (gx_ki fun r20 τ20 hq20 => ?_)
    obtain ⟨rfl, ⟨rfl, hb20⟩ | ⟨rfl, hb20⟩⟩ := hq20
    · exact gx_iret hC dX4_source_23 (⟨rfl, by unfold qsrc; first | (rw [if_neg (qge100.mp h3)]; simp_all) | (rw [if_pos (Decidable.not_not.mp (fun q => h3 (qge100.mpr q)))]; simp)⟩)
    · exact gx_iret hC dX4_source_23 (⟨rfl, by unfold qsrc; first | (rw [if_neg (qge100.mp h3)]; simp_all) | (rw [if_pos (Decidable.not_not.mp (fun q => h3 (qge100.mpr q)))]; simp)⟩)
  · refine gx_sipush (v := (-10001)) hX dX4_source_6 rfl (by decide) ?_
    refine gx_goto (pc' := 23) hX dX4_source_9 (by decide) ?_
    exact gx_iret hC dX4_source_23 (⟨rfl, by unfold qsrc; first | (rw [if_neg (qge100.mp h3)]; simp_all) | (rw [if_pos (Decidable.not_not.mp (fun q => h3 (qge100.mpr q)))]; simp)⟩)

set_option maxRecDepth 100000 in
set_option maxHeartbeats 4000000 in
theorem c_X4_isUndefined (l : Launch) (Y : gL) (mo : Nat) (σ : gS) (r : Nat → Int32) (n : Nat) (hM : gLM Y mo) (hr : gRow Y mo σ r n) (x : Int32) : gM l yX4_isUndefined cX4_isUndefined 2 (some .boolean) (gRm 3 66) Y [.ref mo, .int x] σ (gI fun v τ => σ = τ ∧ ((v = 1 ∧ qundB (qg r n) x = true) ∨ (v = 0 ∧ ¬ qundB (qg r n) x = true))) := by
  have hr1 := hr.1
  have hr2 := hr.2.1
  have hr3 := hr.2.2
  refine gM.of (by decide) rfl ?_
  intro p e s m args below meth c hC
  have hX := hC.1
  refine gx_iload_n hX 1 dX4_isUndefined_0 rfl rfl ?_
  refine gx_bipush (v := 99) hX dX4_isUndefined_1 rfl (by decide) ?_
  refine gx_icmp_le (tgt := 21) hX dX4_isUndefined_3 (by decide) rfl (fun h3 => ?_) (fun h3 => ?_)
  · refine gx_iconst (v := 0) hX dX4_isUndefined_21 rfl (by decide) ?_
    exact gx_zret hC rfl dX4_isUndefined_22 (⟨rfl, by unfold qundB; simp_all [qle99]⟩)
  · refine gx_aload_n hX 0 dX4_isUndefined_6 rfl rfl ?_
    refine gx_iload_n hX 1 dX4_isUndefined_7 rfl rfl ?_
    refine gx_bipush (v := 100) hX dX4_isUndefined_8 rfl (by decide) ?_
    refine gx_isub hX dX4_isUndefined_10 rfl ?_
    refine gx_callV (As := [.int (x - 100)]) (st := []) hC (c_X4_definersOf l Y mo σ r n hM hr (x - 100)) kX4_definersOf wm_RX4_53 rfl (gM0 hM) rfl rfl rfl rfl rfl dX4_isUndefined_11 rfl (gx_ki fun r11 τ11 hq11 => ?_)
    obtain ⟨rfl, rfl⟩ := hq11
    refine gx_if_ne (tgt := 21) hX dX4_isUndefined_14 (by decide) rfl (fun h14 => ?_) (fun h14 => ?_)
    · refine gx_iconst (v := 0) hX dX4_isUndefined_21 rfl (by decide) ?_
      exact gx_zret hC rfl dX4_isUndefined_22 (⟨rfl, by unfold qundB; simp_all [qle99]⟩)
    · refine gx_iconst (v := 1) hX dX4_isUndefined_17 rfl (by decide) ?_
      refine gx_goto (pc' := 22) hX dX4_isUndefined_18 (by decide) ?_
      exact gx_zret hC rfl dX4_isUndefined_22 (⟨rfl, by unfold qundB; simp_all [qle99]⟩)

set_option maxRecDepth 100000 in
set_option maxHeartbeats 4000000 in
theorem c_X4_isBad (l : Launch) (Y : gL) (mo : Nat) (σ : gS) (r : Nat → Int32) (n : Nat) (hM : gLM Y mo) (hr : gRow Y mo σ r n) (w : Nat → Int32) (hw : ∀ d, d < n → σ.1 (gF Y mo 5) d = w d) (x : Int32) : gM l yX4_isBad cX4_isBad 4 (some .boolean) (gRm 3 66) Y [.ref mo, .int x] σ (gI fun v τ => σ = τ ∧ ((v = 1 ∧ qbad (qg r n) w x = true) ∨ (v = 0 ∧ ¬ qbad (qg r n) w x = true))) := by
  have hr1 := hr.1
  have hr2 := hr.2.1
  have hr3 := hr.2.2
  refine gM.of (by decide) rfl ?_
  intro p e s m args below meth c hC
  have hX := hC.1
  refine gx_iload_n hX 1 dX4_isBad_0 rfl rfl ?_
  refine gx_bipush (v := 100) hX dX4_isBad_1 rfl (by decide) ?_
  refine gx_icmp_ge (tgt := 10) hX dX4_isBad_3 (by decide) rfl (fun h3 => ?_) (fun h3 => ?_)
  · refine gx_aload_n hX 0 dX4_isBad_10 rfl rfl ?_
    refine gx_iload_n hX 1 dX4_isBad_11 rfl rfl ?_
    refine gx_bipush (v := 100) hX dX4_isBad_12 rfl (by decide) ?_
    refine gx_isub hX dX4_isBad_14 rfl ?_
    refine gx_callV (As := [.int (x - 100)]) (st := []) hC (c_X4_definersOf l Y mo σ r n hM hr (x - 100)) kX4_definersOf wm_RX4_53 rfl (gM0 hM) rfl rfl rfl rfl rfl dX4_isBad_15 rfl (gx_ki fun r15 τ15 hq15 => ?_)
    obtain ⟨rfl, rfl⟩ := hq15
    refine gx_topi (b := (qused (qg r n) x)) (by unfold qused; rw [if_neg (qge100.mp h3)]) ?_
    refine gx_istore_n (lv' := [(2, .int (qused (qg r n) x)), (0, .ref mo), (1, .int x)]) hX dX4_isBad_18 rfl (by decide) rfl ?_
    refine gx_iconst (v := 0) hX dX4_isBad_19 rfl (by decide) ?_
    refine gx_istore_n (lv' := [(3, .int 0), (2, .int (qused (qg r n) x)), (0, .ref mo), (1, .int x)]) hX dX4_isBad_20 rfl (by decide) rfl ?_
    have L21 : ∀ (k21 : Nat) (i : Nat), n - i < k21 → (i ≤ n) → (∀ j, j < i → ¬ (qt (qused (qg r n) x) j = true ∧ w j ≠ 0)) → gG p l e (gRm 3 66) s m args below meth c Y (gI fun v τ => σ = τ ∧ ((v = 1 ∧ qbad (qg r n) w x = true) ∨ (v = 0 ∧ ¬ qbad (qg r n) w x = true))) σ 21 [(0, .ref mo), (1, .int x), (2, .int (qused (qg r n) x)), (3, .int (nI i))] [] := by
      intro k21
      induction k21 with
      | zero => intro i hk21; exact absurd hk21 (Nat.not_lt_zero _)
      | succ k21 ih21 =>
        intro i hk21 hi hno
        refine gx_iload_n hX 3 dX4_isBad_21 rfl rfl ?_
        refine gx_aload_n hX 0 dX4_isBad_22 rfl rfl ?_
        refine gx_get hC 0 inlX4 wf_RX4_7 rfl (gM0 hM) rfl rfl rfl rfl dX4_isBad_23 rfl ?_
        refine gx_iconst (v := 0) hX dX4_isBad_26 rfl (by decide) ?_
        refine gx_iald (i := 0) hC (gM1 hM) rfl rfl (by omega) rfl dX4_isBad_27 rfl ?_
        refine gx_topi (b := (nI n)) (by rw [hr1]; exact hr2) ?_
        refine gx_nat_ge (i := i) (j := n) (tgt := 57) hX dX4_isBad_28 (by decide) rfl rfl rfl (by omega) (by omega) (fun h28 => ?_) (fun h28 => ?_)
        · refine gx_iconst (v := 0) hX dX4_isBad_57 rfl (by decide) ?_
          exact gx_zret hC rfl dX4_isBad_58 (⟨rfl, Or.inr ⟨rfl, by unfold qbad; simp only [decide_eq_true_eq]; intro q; obtain ⟨d, hd, hp⟩ := qfst_lt.mp q; have hd2 : d < n := hd; have := hno d (by omega); simp_all⟩⟩)
        · refine gx_iload_n hX 2 dX4_isBad_31 rfl rfl ?_
          refine gx_iload_n hX 3 dX4_isBad_32 rfl rfl ?_
          refine gx_ishr hX dX4_isBad_33 rfl ?_
          refine gx_iconst (v := 1) hX dX4_isBad_34 rfl (by decide) ?_
          refine gx_iand hX dX4_isBad_35 rfl ?_
          refine gx_iconst (v := 1) hX dX4_isBad_36 rfl (by decide) ?_
          refine gx_icmp_ne (tgt := 51) hX dX4_isBad_37 (by decide) rfl (fun h37 => ?_) (fun h37 => ?_)
          · refine gx_iinc (w := (nI (i + 1))) (lv' := [(3, .int (nI (i + 1))), (0, .ref mo), (1, .int x), (2, .int (qused (qg r n) x))]) hX 3 dX4_isBad_51 rfl rfl (nI_add _ _) (by decide) rfl ?_
            refine gx_goto (pc' := 21) hX dX4_isBad_54 (by decide) ?_
            exact gx_sub [1, 2, 3, 0] rfl (ih21 (i + 1) (by omega) (by omega) (fun j hj => by rcases Nat.lt_or_ge j i with q | q; exact hno j q; rw [show j = i by omega, ← qt_iff, ← hw i (by omega)]; simp_all))
          · refine gx_aload_n hX 0 dX4_isBad_40 rfl rfl ?_
            refine gx_get hC 5 inlX4 wf_RX4_22 rfl (gM0 hM) rfl rfl rfl rfl dX4_isBad_41 rfl ?_
            refine gx_iload_n hX 3 dX4_isBad_44 rfl rfl ?_
            refine gx_iald (i := i) hC (gM5 hM) rfl rfl (by omega) rfl dX4_isBad_45 rfl ?_
            refine gx_if_eq (tgt := 51) hX dX4_isBad_46 (by decide) rfl (fun h46 => ?_) (fun h46 => ?_)
            · refine gx_iinc (w := (nI (i + 1))) (lv' := [(3, .int (nI (i + 1))), (0, .ref mo), (1, .int x), (2, .int (qused (qg r n) x))]) hX 3 dX4_isBad_51 rfl rfl (nI_add _ _) (by decide) rfl ?_
              refine gx_goto (pc' := 21) hX dX4_isBad_54 (by decide) ?_
              exact gx_sub [1, 2, 3, 0] rfl (ih21 (i + 1) (by omega) (by omega) (fun j hj => by rcases Nat.lt_or_ge j i with q | q; exact hno j q; rw [show j = i by omega, ← qt_iff, ← hw i (by omega)]; simp_all))
            · refine gx_iconst (v := 1) hX dX4_isBad_49 rfl (by decide) ?_
              exact gx_zret hC rfl dX4_isBad_50 (⟨rfl, Or.inl ⟨rfl, by unfold qbad; simp only [decide_eq_true_eq]; exact qfst_lt.mpr ⟨i, by show i < n; omega, by rw [qt_iff] at h37; rw [hw i (by omega)] at h46; simp_all⟩⟩⟩)
    exact gx_sub [2, 3, 1, 0] rfl (L21 (n + 1) 0 (by omega) (by omega) (fun j hj => absurd hj (Nat.not_lt_zero j)))
  · refine gx_iconst (v := 0) hX dX4_isBad_6 rfl (by decide) ?_
    refine gx_topi (b := (qused (qg r n) x)) (by unfold qused; rw [if_pos (Decidable.not_not.mp (fun q => h3 (qge100.mpr q)))]) ?_
    refine gx_goto (pc' := 18) hX dX4_isBad_7 (by decide) ?_
    refine gx_istore_n (lv' := [(2, .int (qused (qg r n) x)), (0, .ref mo), (1, .int x)]) hX dX4_isBad_18 rfl (by decide) rfl ?_
    refine gx_iconst (v := 0) hX dX4_isBad_19 rfl (by decide) ?_
    refine gx_istore_n (lv' := [(3, .int 0), (2, .int (qused (qg r n) x)), (0, .ref mo), (1, .int x)]) hX dX4_isBad_20 rfl (by decide) rfl ?_
    have L21 : ∀ (k21 : Nat) (i : Nat), n - i < k21 → (i ≤ n) → (∀ j, j < i → ¬ (qt (qused (qg r n) x) j = true ∧ w j ≠ 0)) → gG p l e (gRm 3 66) s m args below meth c Y (gI fun v τ => σ = τ ∧ ((v = 1 ∧ qbad (qg r n) w x = true) ∨ (v = 0 ∧ ¬ qbad (qg r n) w x = true))) σ 21 [(0, .ref mo), (1, .int x), (2, .int (qused (qg r n) x)), (3, .int (nI i))] [] := by
      intro k21
      induction k21 with
      | zero => intro i hk21; exact absurd hk21 (Nat.not_lt_zero _)
      | succ k21 ih21 =>
        intro i hk21 hi hno
        refine gx_iload_n hX 3 dX4_isBad_21 rfl rfl ?_
        refine gx_aload_n hX 0 dX4_isBad_22 rfl rfl ?_
        refine gx_get hC 0 inlX4 wf_RX4_7 rfl (gM0 hM) rfl rfl rfl rfl dX4_isBad_23 rfl ?_
        refine gx_iconst (v := 0) hX dX4_isBad_26 rfl (by decide) ?_
        refine gx_iald (i := 0) hC (gM1 hM) rfl rfl (by omega) rfl dX4_isBad_27 rfl ?_
        refine gx_topi (b := (nI n)) (by rw [hr1]; exact hr2) ?_
        refine gx_nat_ge (i := i) (j := n) (tgt := 57) hX dX4_isBad_28 (by decide) rfl rfl rfl (by omega) (by omega) (fun h28 => ?_) (fun h28 => ?_)
        · refine gx_iconst (v := 0) hX dX4_isBad_57 rfl (by decide) ?_
          exact gx_zret hC rfl dX4_isBad_58 (⟨rfl, Or.inr ⟨rfl, by unfold qbad; simp only [decide_eq_true_eq]; intro q; obtain ⟨d, hd, hp⟩ := qfst_lt.mp q; have hd2 : d < n := hd; have := hno d (by omega); simp_all⟩⟩)
        · refine gx_iload_n hX 2 dX4_isBad_31 rfl rfl ?_
          refine gx_iload_n hX 3 dX4_isBad_32 rfl rfl ?_
          refine gx_ishr hX dX4_isBad_33 rfl ?_
          refine gx_iconst (v := 1) hX dX4_isBad_34 rfl (by decide) ?_
          refine gx_iand hX dX4_isBad_35 rfl ?_
          refine gx_iconst (v := 1) hX dX4_isBad_36 rfl (by decide) ?_
          refine gx_icmp_ne (tgt := 51) hX dX4_isBad_37 (by decide) rfl (fun h37 => ?_) (fun h37 => ?_)
          · refine gx_iinc (w := (nI (i + 1))) (lv' := [(3, .int (nI (i + 1))), (0, .ref mo), (1, .int x), (2, .int (qused (qg r n) x))]) hX 3 dX4_isBad_51 rfl rfl (nI_add _ _) (by decide) rfl ?_
            refine gx_goto (pc' := 21) hX dX4_isBad_54 (by decide) ?_
            exact gx_sub [1, 2, 3, 0] rfl (ih21 (i + 1) (by omega) (by omega) (fun j hj => by rcases Nat.lt_or_ge j i with q | q; exact hno j q; rw [show j = i by omega, ← qt_iff, ← hw i (by omega)]; simp_all))
          · refine gx_aload_n hX 0 dX4_isBad_40 rfl rfl ?_
            refine gx_get hC 5 inlX4 wf_RX4_22 rfl (gM0 hM) rfl rfl rfl rfl dX4_isBad_41 rfl ?_
            refine gx_iload_n hX 3 dX4_isBad_44 rfl rfl ?_
            refine gx_iald (i := i) hC (gM5 hM) rfl rfl (by omega) rfl dX4_isBad_45 rfl ?_
            refine gx_if_eq (tgt := 51) hX dX4_isBad_46 (by decide) rfl (fun h46 => ?_) (fun h46 => ?_)
            · refine gx_iinc (w := (nI (i + 1))) (lv' := [(3, .int (nI (i + 1))), (0, .ref mo), (1, .int x), (2, .int (qused (qg r n) x))]) hX 3 dX4_isBad_51 rfl rfl (nI_add _ _) (by decide) rfl ?_
              refine gx_goto (pc' := 21) hX dX4_isBad_54 (by decide) ?_
              exact gx_sub [1, 2, 3, 0] rfl (ih21 (i + 1) (by omega) (by omega) (fun j hj => by rcases Nat.lt_or_ge j i with q | q; exact hno j q; rw [show j = i by omega, ← qt_iff, ← hw i (by omega)]; simp_all))
            · refine gx_iconst (v := 1) hX dX4_isBad_49 rfl (by decide) ?_
              exact gx_zret hC rfl dX4_isBad_50 (⟨rfl, Or.inl ⟨rfl, by unfold qbad; simp only [decide_eq_true_eq]; exact qfst_lt.mpr ⟨i, by show i < n; omega, by rw [qt_iff] at h37; rw [hw i (by omega)] at h46; simp_all⟩⟩⟩)
    exact gx_sub [2, 3, 1, 0] rfl (L21 (n + 1) 0 (by omega) (by omega) (fun j hj => absurd hj (Nat.not_lt_zero j)))
