set_option maxRecDepth 100000 in
set_option maxHeartbeats 4000000 in
theorem c_X4_lastRunCount (l : Launch) (Y : gL) (mo : Nat) (σ : gS) (r : Nat → Int32) (n : Nat) (P : Nat → Nat → Int32) (q : Nat) (cn : Nat → Int32) (hM : gLM Y mo) (hA : gMA Y mo σ (r, n, P, q, cn)) (B : Nat) (hB : B + 12 < 2 ^ 30) (hI : qAI (r, n, P, q, cn) B) : gM l yX4_lastRunCount cX4_lastRunCount 1 (some .int) (gRm 0 0) Y [.ref mo] σ (gI fun z τ => r 4 = z ∧ gMA Y mo τ (r, n, P, q, cn)) := by
  have hr : gRow Y mo σ r n := hA.1
  have hr2 := hr.2.1
  have hr3 := hr.2.2
  have hI1 : qRI r n B := hI.1
  refine gM.of (by decide) rfl ?_
  intro p e s m args below meth c hC
  have hX := hC.1
  refine gx_aload_n hX 0 dX4_lastRunCount_0 rfl rfl ?_
  refine gx_get hC 0 inlX4 wf_RX4_7 rfl (gM0 hM) rfl rfl rfl rfl dX4_lastRunCount_1 rfl ?_
  refine gx_iconst (v := 4) hX dX4_lastRunCount_4 rfl (by decide) ?_
  refine gx_iald (i := 4) hC (gM1 hM) rfl rfl (by omega) rfl dX4_lastRunCount_5 rfl ?_
  refine gx_topi (b := (r 4)) (by rw [(hr).1]) ?_
  exact gx_iret hC dX4_lastRunCount_6 (⟨rfl, hA⟩)

set_option maxRecDepth 100000 in
set_option maxHeartbeats 4000000 in
theorem c_X4_cellCount (l : Launch) (Y : gL) (mo : Nat) (σ : gS) (r : Nat → Int32) (n : Nat) (P : Nat → Nat → Int32) (q : Nat) (cn : Nat → Int32) (hM : gLM Y mo) (hA : gMA Y mo σ (r, n, P, q, cn)) (B : Nat) (hB : B + 12 < 2 ^ 30) (hI : qAI (r, n, P, q, cn) B) : gM l yX4_cellCount cX4_cellCount 1 (some .int) (gRm 0 0) Y [.ref mo] σ (gI fun z τ => r 0 = z ∧ gMA Y mo τ (r, n, P, q, cn)) := by
  have hr : gRow Y mo σ r n := hA.1
  have hr2 := hr.2.1
  have hr3 := hr.2.2
  have hI1 : qRI r n B := hI.1
  refine gM.of (by decide) rfl ?_
  intro p e s m args below meth c hC
  have hX := hC.1
  refine gx_aload_n hX 0 dX4_cellCount_0 rfl rfl ?_
  refine gx_get hC 0 inlX4 wf_RX4_7 rfl (gM0 hM) rfl rfl rfl rfl dX4_cellCount_1 rfl ?_
  refine gx_iconst (v := 0) hX dX4_cellCount_4 rfl (by decide) ?_
  refine gx_iald (i := 0) hC (gM1 hM) rfl rfl (by omega) rfl dX4_cellCount_5 rfl ?_
  refine gx_topi (b := (r 0)) (by rw [(hr).1]) ?_
  exact gx_iret hC dX4_cellCount_6 (⟨rfl, hA⟩)

set_option maxRecDepth 100000 in
set_option maxHeartbeats 4000000 in
theorem c_X4_totalRuns (l : Launch) (Y : gL) (mo : Nat) (σ : gS) (r : Nat → Int32) (n : Nat) (P : Nat → Nat → Int32) (q : Nat) (cn : Nat → Int32) (hM : gLM Y mo) (hA : gMA Y mo σ (r, n, P, q, cn)) (B : Nat) (hB : B + 12 < 2 ^ 30) (hI : qAI (r, n, P, q, cn) B) : gM l yX4_totalRuns cX4_totalRuns 1 (some .int) (gRm 0 0) Y [.ref mo] σ (gI fun z τ => r 3 = z ∧ gMA Y mo τ (r, n, P, q, cn)) := by
  have hr : gRow Y mo σ r n := hA.1
  have hr2 := hr.2.1
  have hr3 := hr.2.2
  have hI1 : qRI r n B := hI.1
  refine gM.of (by decide) rfl ?_
  intro p e s m args below meth c hC
  have hX := hC.1
  refine gx_aload_n hX 0 dX4_totalRuns_0 rfl rfl ?_
  refine gx_get hC 0 inlX4 wf_RX4_7 rfl (gM0 hM) rfl rfl rfl rfl dX4_totalRuns_1 rfl ?_
  refine gx_iconst (v := 3) hX dX4_totalRuns_4 rfl (by decide) ?_
  refine gx_iald (i := 3) hC (gM1 hM) rfl rfl (by omega) rfl dX4_totalRuns_5 rfl ?_
  refine gx_topi (b := (r 3)) (by rw [(hr).1]) ?_
  exact gx_iret hC dX4_totalRuns_6 (⟨rfl, hA⟩)

set_option maxRecDepth 100000 in
set_option maxHeartbeats 4000000 in
theorem c_X4_lastRun (l : Launch) (Y : gL) (mo : Nat) (σ : gS) (r : Nat → Int32) (n : Nat) (P : Nat → Nat → Int32) (q : Nat) (cn : Nat → Int32) (hM : gLM Y mo) (hA : gMA Y mo σ (r, n, P, q, cn)) (B : Nat) (hB : B + 12 < 2 ^ 30) (hI : qAI (r, n, P, q, cn) B) (x : Int32) : gM l yX4_lastRun cX4_lastRun 2 (some .int) (gRm 1 21) Y [.ref mo, .int x] σ (gI fun z τ => (qlastRun (r, n, P, q, cn) x).1 = z ∧ gMA Y mo τ (qlastRun (r, n, P, q, cn) x).2) := by
  have hr : gRow Y mo σ r n := hA.1
  have hr2 := hr.2.1
  have hr3 := hr.2.2
  have hI1 : qRI r n B := hI.1
  obtain ⟨k4, hk4, he4⟩ := hI1.2.2.2.2.1
  refine gM.of (by decide) rfl ?_
  intro p e s m args below meth c hC
  have hX := hC.1
  refine gx_iload_n hX 1 dX4_lastRun_0 rfl rfl ?_
  refine gx_if_ge (tgt := 12) hX dX4_lastRun_1 (by decide) rfl (fun h1 => ?_) (fun h1 => ?_)
  · obtain ⟨j, hj, rfl⟩ := nI_of (Int32.not_lt.mpr h1)
    refine gx_iload_n hX 1 dX4_lastRun_12 rfl rfl ?_
    refine gx_aload_n hX 0 dX4_lastRun_13 rfl rfl ?_
    refine gx_get hC 0 inlX4 wf_RX4_7 rfl (gM0 hM) rfl rfl rfl rfl dX4_lastRun_14 rfl ?_
    refine gx_iconst (v := 4) hX dX4_lastRun_17 rfl (by decide) ?_
    refine gx_iald (i := 4) hC (gM1 hM) rfl rfl (by omega) rfl dX4_lastRun_18 rfl ?_
    refine gx_topi (b := (nI k4)) (by rw [(hr).1]; exact he4) ?_
    refine gx_nat_ge (i := j) (j := k4) (tgt := 33) hX dX4_lastRun_19 (by decide) rfl rfl rfl (by omega) (by omega) (fun h19 => ?_) (fun h19 => ?_)
    · refine gx_sipush (v := (-10001)) hX dX4_lastRun_33 rfl (by decide) ?_
      refine gx_iret hC dX4_lastRun_36 ?_
      have hz : qlastRun (r, n, P, q, cn) (nI j) = (-10001, (r, n, P, q, cn)) := (if_neg (nI_pos hj)).trans (if_neg (show ¬ nI j < r 4 by rw [he4]; exact nI_nlt h19 hj))
      rw [hz]
      exact ⟨rfl, hA⟩
    · refine gx_aload_n hX 0 dX4_lastRun_22 rfl rfl ?_
      refine gx_get hC 0 inlX4 wf_RX4_7 rfl (gM0 hM) rfl rfl rfl rfl dX4_lastRun_23 rfl ?_
      refine gx_iconst (v := 5) hX dX4_lastRun_26 rfl (by decide) ?_
      refine gx_iload_n hX 1 dX4_lastRun_27 rfl rfl ?_
      refine gx_iaddN (i := 5) (j := j) hX dX4_lastRun_28 rfl rfl rfl ?_
      refine gx_iald (i := 5 + j) hC (gM1 hM) rfl rfl (by omega) rfl dX4_lastRun_29 rfl ?_
      refine gx_topi (b := (r (5 + j))) (by rw [(hr).1]) ?_
      refine gx_goto (pc' := 36) hX dX4_lastRun_30 (by decide) ?_
      refine gx_iret hC dX4_lastRun_36 ?_
      have hz : qlastRun (r, n, P, q, cn) (nI j) = (r (5 + (nI j).toNatClampNeg), (r, n, P, q, cn)) := (if_neg (nI_pos hj)).trans (if_pos (show nI j < r 4 by rw [he4]; exact nI_lt h19 (by omega)))
      rw [hz]
      exact ⟨by rw [nI_clamp hj], hA⟩
  · have h1n : x < 0 := Int32.not_le.mp h1
    refine gx_aload_n hX 0 dX4_lastRun_4 rfl rfl ?_
    refine gx_sipush (v := (-10002)) hX dX4_lastRun_5 rfl (by decide) ?_
    refine gx_callV (As := [.int (-10002)]) (st := []) hC (c_X4_error l Y mo σ 0 (-10002) hM (by decide) (by decide)) kX4_error wm_RX4_118 rfl (gM0 hM) rfl rfl rfl rfl rfl dX4_lastRun_8 rfl (gx_ki fun r8 τ8 hq8 => ?_)
    obtain ⟨rfl, rfl⟩ := hq8
    refine gx_iret hC dX4_lastRun_11 ?_
    have hz : qlastRun (r, n, P, q, cn) x = (-10002, qfail (r, n, P, q, cn) 0) := if_pos h1n
    rw [hz]
    exact ⟨rfl, hA.fail hM⟩

set_option maxRecDepth 100000 in
set_option maxHeartbeats 4000000 in
theorem c_X4_ofCell (l : Launch) (Y : gL) (mo : Nat) (σ : gS) (r : Nat → Int32) (n : Nat) (P : Nat → Nat → Int32) (q : Nat) (cn : Nat → Int32) (hM : gLM Y mo) (hA : gMA Y mo σ (r, n, P, q, cn)) (B : Nat) (hB : B + 12 < 2 ^ 30) (hI : qAI (r, n, P, q, cn) B) (w1 : Int32) (w : Nat) (hw : w < 10) : gM l yX4_ofCell cX4_ofCell 3 (some .int) (gRm 2 43) Y [.ref mo, .int w1, .int (nI w)] σ (gI fun z τ => (qof (r, n, P, q, cn) w1 w).1 = z ∧ gMA Y mo τ (qof (r, n, P, q, cn) w1 w).2) := by
  have hr : gRow Y mo σ r n := hA.1
  have hr2 := hr.2.1
  have hr3 := hr.2.2
  have hI1 : qRI r n B := hI.1
  refine gM.of (by decide) rfl ?_
  intro p e s m args below meth c hC
  have hX := hC.1
  refine gx_aload_n hX 0 dX4_ofCell_0 rfl rfl ?_
  refine gx_iload_n hX 1 dX4_ofCell_1 rfl rfl ?_
  refine gx_callV (As := [.int w1]) (st := []) hC (c_X4_isCell l Y mo σ r n hM hr w1) kX4_isCell wm_RX4_115 rfl (gM0 hM) rfl rfl rfl rfl rfl dX4_ofCell_2 rfl (gx_ki fun r2 τ2 hq2 => ?_)
  obtain ⟨rfl, ⟨rfl, hb2⟩ | ⟨rfl, hb2⟩⟩ := hq2
  · obtain ⟨j, hj, rfl⟩ := hb2
    refine gx_if_eq_f (tgt := 17) hX dX4_ofCell_5 (by decide) rfl (by decide) ?_
    refine gx_aload_n hX 0 dX4_ofCell_8 rfl rfl ?_
    refine gx_iload_n hX 1 dX4_ofCell_9 rfl rfl ?_
    refine gx_iload_n hX 2 dX4_ofCell_10 rfl rfl ?_
    refine gx_callV (As := [.int (nI j), .int (nI w)]) (st := []) hC (c_X4_get l Y mo σ r j w hM hr.1 (by omega)) kX4_get wm_RX4_50 rfl (gM0 hM) rfl rfl rfl rfl rfl dX4_ofCell_11 rfl (gx_ki fun r11 τ11 hq11 => ?_)
    obtain ⟨rfl, rfl⟩ := hq11
    refine gx_goto (pc' := 24) hX dX4_ofCell_14 (by decide) ?_
    refine gx_iret hC dX4_ofCell_24 ?_
    have hz : qof (r, n, P, q, cn) (nI j) w = (r (17 + 10 * j + w), (r, n, P, q, cn)) := qcell_some hr3 hj
    rw [hz]
    exact ⟨rfl, hA⟩
  · refine gx_if_eq_t (tgt := 17) hX dX4_ofCell_5 (by decide) (by decide) ?_
    refine gx_aload_n hX 0 dX4_ofCell_17 rfl rfl ?_
    refine gx_sipush (v := (-10002)) hX dX4_ofCell_18 rfl (by decide) ?_
    refine gx_callV (As := [.int (-10002)]) (st := []) hC (c_X4_error l Y mo σ 0 (-10002) hM (by decide) (by decide)) kX4_error wm_RX4_118 rfl (gM0 hM) rfl rfl rfl rfl rfl dX4_ofCell_21 rfl (gx_ki fun r21 τ21 hq21 => ?_)
    obtain ⟨rfl, rfl⟩ := hq21
    refine gx_iret hC dX4_ofCell_24 ?_
    have hz : qof (r, n, P, q, cn) w1 w = (-10002, qfail (r, n, P, q, cn) 0) := qcell_none hr3 hb2
    rw [hz]
    exact ⟨rfl, hA.fail hM⟩

set_option maxRecDepth 100000 in
set_option maxHeartbeats 4000000 in
theorem c_X4_variable (l : Launch) (Y : gL) (mo : Nat) (σ : gS) (r : Nat → Int32) (n : Nat) (P : Nat → Nat → Int32) (q : Nat) (cn : Nat → Int32) (hM : gLM Y mo) (hA : gMA Y mo σ (r, n, P, q, cn)) (B : Nat) (hB : B + 12 < 2 ^ 30) (hI : qAI (r, n, P, q, cn) B) (w1 : Int32) : gM l yX4_variable cX4_variable 2 (some .int) (gRm 3 65) Y [.ref mo, .int w1] σ (gI fun z τ => (qof (r, n, P, q, cn) w1 0).1 = z ∧ gMA Y mo τ (qof (r, n, P, q, cn) w1 0).2) := by
  have hr : gRow Y mo σ r n := hA.1
  have hr2 := hr.2.1
  have hr3 := hr.2.2
  have hI1 : qRI r n B := hI.1
  refine gM.of (by decide) rfl ?_
  intro p e s m args below meth c hC
  have hX := hC.1
  refine gx_aload_n hX 0 dX4_variable_0 rfl rfl ?_
  refine gx_iload_n hX 1 dX4_variable_1 rfl rfl ?_
  refine gx_iconst (v := 0) hX dX4_variable_2 rfl (by decide) ?_
  refine gx_callV (As := [.int w1, .int 0]) (st := []) hC (c_X4_ofCell l Y mo σ r n P q cn hM hA B hB hI w1 0 (by omega)) kX4_ofCell wm_RX4_136 rfl (gM0 hM) rfl rfl rfl rfl rfl dX4_variable_3 rfl (gx_ki fun r3 τ3 hq3 => ?_)
  exact gx_iret hC dX4_variable_6 (hq3)

set_option maxRecDepth 100000 in
set_option maxHeartbeats 4000000 in
theorem c_X4_version (l : Launch) (Y : gL) (mo : Nat) (σ : gS) (r : Nat → Int32) (n : Nat) (P : Nat → Nat → Int32) (q : Nat) (cn : Nat → Int32) (hM : gLM Y mo) (hA : gMA Y mo σ (r, n, P, q, cn)) (B : Nat) (hB : B + 12 < 2 ^ 30) (hI : qAI (r, n, P, q, cn) B) (w1 : Int32) : gM l yX4_version cX4_version 2 (some .int) (gRm 3 65) Y [.ref mo, .int w1] σ (gI fun z τ => (qof (r, n, P, q, cn) w1 5).1 = z ∧ gMA Y mo τ (qof (r, n, P, q, cn) w1 5).2) := by
  have hr : gRow Y mo σ r n := hA.1
  have hr2 := hr.2.1
  have hr3 := hr.2.2
  have hI1 : qRI r n B := hI.1
  refine gM.of (by decide) rfl ?_
  intro p e s m args below meth c hC
  have hX := hC.1
  refine gx_aload_n hX 0 dX4_version_0 rfl rfl ?_
  refine gx_iload_n hX 1 dX4_version_1 rfl rfl ?_
  refine gx_iconst (v := 5) hX dX4_version_2 rfl (by decide) ?_
  refine gx_callV (As := [.int w1, .int 5]) (st := []) hC (c_X4_ofCell l Y mo σ r n P q cn hM hA B hB hI w1 5 (by omega)) kX4_ofCell wm_RX4_136 rfl (gM0 hM) rfl rfl rfl rfl rfl dX4_version_3 rfl (gx_ki fun r3 τ3 hq3 => ?_)
  exact gx_iret hC dX4_version_6 (hq3)

set_option maxRecDepth 100000 in
set_option maxHeartbeats 4000000 in
theorem c_X4_runs (l : Launch) (Y : gL) (mo : Nat) (σ : gS) (r : Nat → Int32) (n : Nat) (P : Nat → Nat → Int32) (q : Nat) (cn : Nat → Int32) (hM : gLM Y mo) (hA : gMA Y mo σ (r, n, P, q, cn)) (B : Nat) (hB : B + 12 < 2 ^ 30) (hI : qAI (r, n, P, q, cn) B) (w1 : Int32) : gM l yX4_runs cX4_runs 2 (some .int) (gRm 3 65) Y [.ref mo, .int w1] σ (gI fun z τ => (qof (r, n, P, q, cn) w1 8).1 = z ∧ gMA Y mo τ (qof (r, n, P, q, cn) w1 8).2) := by
  have hr : gRow Y mo σ r n := hA.1
  have hr2 := hr.2.1
  have hr3 := hr.2.2
  have hI1 : qRI r n B := hI.1
  refine gM.of (by decide) rfl ?_
  intro p e s m args below meth c hC
  have hX := hC.1
  refine gx_aload_n hX 0 dX4_runs_0 rfl rfl ?_
  refine gx_iload_n hX 1 dX4_runs_1 rfl rfl ?_
  refine gx_bipush (v := 8) hX dX4_runs_2 rfl (by decide) ?_
  refine gx_callV (As := [.int w1, .int 8]) (st := []) hC (c_X4_ofCell l Y mo σ r n P q cn hM hA B hB hI w1 8 (by omega)) kX4_ofCell wm_RX4_136 rfl (gM0 hM) rfl rfl rfl rfl rfl dX4_runs_4 rfl (gx_ki fun r4 τ4 hq4 => ?_)
  exact gx_iret hC dX4_runs_7 (hq4)

set_option maxRecDepth 100000 in
set_option maxHeartbeats 4000000 in
theorem c_X4_statusOf (l : Launch) (Y : gL) (mo : Nat) (σ : gS) (r : Nat → Int32) (n : Nat) (hM : gLM Y mo) (hr : gRow Y mo σ r n) (hw : ∀ c, c < n → σ.1 (gF Y mo 5) c = qw (qg r n) c) (hf : ∀ c, c < n → σ.1 (gF Y mo 9) c = if qF (qg r n) r c = true then 1 else 0) (i : Nat) (hi : i < n) : gM l yX4_statusOf cX4_statusOf 2 (some .int) (gRm 2 43) Y [.ref mo, .int (nI i)] σ (gI fun v τ => σ = τ ∧ qsta (qg r n) r i = v) := by
  have hr1 := hr.1
  have hr2 := hr.2.1
  have hr3 := hr.2.2
  refine gM.of (by decide) rfl ?_
  intro p e s m args below meth c hC
  have hX := hC.1
  refine gx_aload_n hX 0 dX4_statusOf_0 rfl rfl ?_
  refine gx_get hC 5 inlX4 wf_RX4_22 rfl (gM0 hM) rfl rfl rfl rfl dX4_statusOf_1 rfl ?_
  refine gx_iload_n hX 1 dX4_statusOf_4 rfl rfl ?_
  refine gx_iald (i := i) hC (gM5 hM) rfl rfl (by omega) rfl dX4_statusOf_5 rfl ?_
  refine gx_topi (b := (qw (qg r n) i)) (hw i hi) ?_
  refine gx_if_eq (tgt := 16) hX dX4_statusOf_6 (by decide) rfl (fun h6 => ?_) (fun h6 => ?_)
  · refine gx_aload_n hX 0 dX4_statusOf_16 rfl rfl ?_
    refine gx_get hC 9 inlX4 wf_RX4_31 rfl (gM0 hM) rfl rfl rfl rfl dX4_statusOf_17 rfl ?_
    refine gx_iload_n hX 1 dX4_statusOf_20 rfl rfl ?_
    refine gx_zald (i := i) hC (gM9 hM) rfl rfl (by omega) rfl dX4_statusOf_21 rfl ?_
    refine gx_if_ne (tgt := 29) hX dX4_statusOf_22 (by decide) rfl (fun h22 => ?_) (fun h22 => ?_)
    · refine gx_aload_n hX 0 dX4_statusOf_29 rfl rfl ?_
      refine gx_iload_n hX 1 dX4_statusOf_30 rfl rfl ?_
      refine gx_iconst (v := 4) hX dX4_statusOf_31 rfl (by decide) ?_
      refine gx_callV (As := [.int (nI i), .int 4]) (st := []) hC (c_X4_get l Y mo σ r i 4 hM hr.1 (by omega)) kX4_get wm_RX4_50 rfl (gM0 hM) rfl rfl rfl rfl rfl dX4_statusOf_32 rfl (gx_ki fun r32 τ32 hq32 => ?_)
      obtain ⟨rfl, rfl⟩ := hq32
      refine gx_sipush (v := 9999) hX dX4_statusOf_35 rfl (by decide) ?_
      refine gx_icmp_le (tgt := 54) hX dX4_statusOf_38 (by decide) rfl (fun h38 => ?_) (fun h38 => ?_)
      · refine gx_iconst (v := 0) hX dX4_statusOf_54 rfl (by decide) ?_
        exact gx_iret hC dX4_statusOf_55 (⟨rfl, by unfold qsta; rw [if_neg (fun q => q h6)]; rw [if_pos (qfr_t (hf i hi) h22)]; first | rw [if_pos (Int32.not_le.mp h38)] | rw [if_neg (Int32.not_lt.mpr h38)]⟩)
      · refine gx_aload_n hX 0 dX4_statusOf_41 rfl rfl ?_
        refine gx_iload_n hX 1 dX4_statusOf_42 rfl rfl ?_
        refine gx_iconst (v := 4) hX dX4_statusOf_43 rfl (by decide) ?_
        refine gx_callV (As := [.int (nI i), .int 4]) (st := []) hC (c_X4_get l Y mo σ r i 4 hM hr.1 (by omega)) kX4_get wm_RX4_50 rfl (gM0 hM) rfl rfl rfl rfl rfl dX4_statusOf_44 rfl (gx_ki fun r44 τ44 hq44 => ?_)
        obtain ⟨rfl, rfl⟩ := hq44
        refine gx_sipush (v := 20000) hX dX4_statusOf_47 rfl (by decide) ?_
        refine gx_isub hX dX4_statusOf_50 rfl ?_
        refine gx_goto (pc' := 55) hX dX4_statusOf_51 (by decide) ?_
        exact gx_iret hC dX4_statusOf_55 (⟨rfl, by unfold qsta; rw [if_neg (fun q => q h6)]; rw [if_pos (qfr_t (hf i hi) h22)]; first | rw [if_pos (Int32.not_le.mp h38)] | rw [if_neg (Int32.not_lt.mpr h38)]⟩)
    · refine gx_iconst (v := 1) hX dX4_statusOf_25 rfl (by decide) ?_
      refine gx_goto (pc' := 55) hX dX4_statusOf_26 (by decide) ?_
      exact gx_iret hC dX4_statusOf_55 (⟨rfl, by unfold qsta; rw [if_neg (fun q => q h6)]; rw [if_neg (by rw [qfr_f (hf i hi) h22]; exact Bool.false_ne_true)]⟩)
  · refine gx_aload_n hX 0 dX4_statusOf_9 rfl rfl ?_
    refine gx_get hC 5 inlX4 wf_RX4_22 rfl (gM0 hM) rfl rfl rfl rfl dX4_statusOf_10 rfl ?_
    refine gx_iload_n hX 1 dX4_statusOf_13 rfl rfl ?_
    refine gx_iald (i := i) hC (gM5 hM) rfl rfl (by omega) rfl dX4_statusOf_14 rfl ?_
    refine gx_topi (b := (qw (qg r n) i)) (hw i hi) ?_
    exact gx_iret hC dX4_statusOf_15 (⟨rfl, if_pos h6⟩)

set_option maxRecDepth 100000 in
set_option maxHeartbeats 4000000 in
theorem c_X4_valueAt (l : Launch) (Y : gL) (mo : Nat) (σ : gS) (r : Nat → Int32) (n : Nat) (hM : gLM Y mo) (hr : gRow Y mo σ r n) (hw : ∀ c, c < n → σ.1 (gF Y mo 5) c = qw (qg r n) c) (hf : ∀ c, c < n → σ.1 (gF Y mo 9) c = if qF (qg r n) r c = true then 1 else 0) (i : Nat) (hi : i < n) : gM l yX4_valueAt cX4_valueAt 2 (some .int) (gRm 3 64) Y [.ref mo, .int (nI i)] σ (gI fun v τ => σ = τ ∧ qval (qg r n) r i = v) := by
  have hr1 := hr.1
  have hr2 := hr.2.1
  have hr3 := hr.2.2
  refine gM.of (by decide) rfl ?_
  intro p e s m args below meth c hC
  have hX := hC.1
  refine gx_aload_n hX 0 dX4_valueAt_0 rfl rfl ?_
  refine gx_iload_n hX 1 dX4_valueAt_1 rfl rfl ?_
  refine gx_callV (As := [.int (nI i)]) (st := []) hC (c_X4_statusOf l Y mo σ r n hM hr hw hf i (by omega)) kX4_statusOf wm_RX4_139 rfl (gM0 hM) rfl rfl rfl rfl rfl dX4_valueAt_2 rfl (gx_ki fun r2 τ2 hq2 => ?_)
  obtain ⟨rfl, rfl⟩ := hq2
  refine gx_if_ne (tgt := 17) hX dX4_valueAt_5 (by decide) rfl (fun h5 => ?_) (fun h5 => ?_)
  · refine gx_sipush (v := (-10001)) hX dX4_valueAt_17 rfl (by decide) ?_
    exact gx_iret hC dX4_valueAt_20 (⟨rfl, if_neg h5⟩)
  · refine gx_aload_n hX 0 dX4_valueAt_8 rfl rfl ?_
    refine gx_iload_n hX 1 dX4_valueAt_9 rfl rfl ?_
    refine gx_iconst (v := 4) hX dX4_valueAt_10 rfl (by decide) ?_
    refine gx_callV (As := [.int (nI i), .int 4]) (st := []) hC (c_X4_get l Y mo σ r i 4 hM hr.1 (by omega)) kX4_get wm_RX4_50 rfl (gM0 hM) rfl rfl rfl rfl rfl dX4_valueAt_11 rfl (gx_ki fun r11 τ11 hq11 => ?_)
    obtain ⟨rfl, rfl⟩ := hq11
    refine gx_goto (pc' := 20) hX dX4_valueAt_14 (by decide) ?_
    exact gx_iret hC dX4_valueAt_20 (⟨rfl, if_pos h5⟩)

set_option maxRecDepth 100000 in
set_option maxHeartbeats 4000000 in
theorem c_X4_dependentsOf (l : Launch) (Y : gL) (mo : Nat) (σ : gS) (r : Nat → Int32) (n : Nat) (hM : gLM Y mo) (hr : gRow Y mo σ r n) (hal : ∀ c d, c < n → d < n → qt (σ.1 (gF Y mo 6) c) d = qall (qg r n) c d) (i : Nat) (hi : i < n) : gM l yX4_dependentsOf cX4_dependentsOf 4 (some .int) (gRm 0 0) Y [.ref mo, .int (nI i)] σ (gI fun v τ => σ = τ ∧ qdpt (qg r n) i n = v) := by
  have hr1 := hr.1
  have hr2 := hr.2.1
  have hr3 := hr.2.2
  refine gM.of (by decide) rfl ?_
  intro p e s m args below meth c hC
  have hX := hC.1
  refine gx_iconst (v := 0) hX dX4_dependentsOf_0 rfl (by decide) ?_
  refine gx_istore_n (lv' := [(2, .int 0), (0, .ref mo), (1, .int (nI i))]) hX dX4_dependentsOf_1 rfl (by decide) rfl ?_
  refine gx_iconst (v := 0) hX dX4_dependentsOf_2 rfl (by decide) ?_
  refine gx_istore_n (lv' := [(3, .int 0), (2, .int 0), (0, .ref mo), (1, .int (nI i))]) hX dX4_dependentsOf_3 rfl (by decide) rfl ?_
  have L4 : ∀ (k4 : Nat) (k : Nat), n - k < k4 → (k ≤ n) → gG p l e (gRm 0 0) s m args below meth c Y (gI fun v τ => σ = τ ∧ qdpt (qg r n) i n = v) σ 4 [(0, .ref mo), (1, .int (nI i)), (2, .int (qdpt (qg r n) i k)), (3, .int (nI k))] [] := by
    intro k4
    induction k4 with
    | zero => intro k hk4; exact absurd hk4 (Nat.not_lt_zero _)
    | succ k4 ih4 =>
      intro k hk4 hk
      refine gx_iload_n hX 3 dX4_dependentsOf_4 rfl rfl ?_
      refine gx_aload_n hX 0 dX4_dependentsOf_5 rfl rfl ?_
      refine gx_get hC 0 inlX4 wf_RX4_7 rfl (gM0 hM) rfl rfl rfl rfl dX4_dependentsOf_6 rfl ?_
      refine gx_iconst (v := 0) hX dX4_dependentsOf_9 rfl (by decide) ?_
      refine gx_iald (i := 0) hC (gM1 hM) rfl rfl (by omega) rfl dX4_dependentsOf_10 rfl ?_
      refine gx_topi (b := (nI n)) (by rw [(hr).1]; exact (hr).2.1) ?_
      refine gx_nat_ge (i := k) (j := n) (tgt := 35) hX dX4_dependentsOf_11 (by decide) rfl rfl rfl (by omega) (by omega) (fun h11 => ?_) (fun h11 => ?_)
      · refine gx_iload_n hX 2 dX4_dependentsOf_35 rfl rfl ?_
        exact gx_iret hC dX4_dependentsOf_36 (⟨rfl, by rw [show k = n by omega]⟩)
      · refine gx_iload_n hX 2 dX4_dependentsOf_14 rfl rfl ?_
        refine gx_aload_n hX 0 dX4_dependentsOf_15 rfl rfl ?_
        refine gx_get hC 6 inlX4 wf_RX4_25 rfl (gM0 hM) rfl rfl rfl rfl dX4_dependentsOf_16 rfl ?_
        refine gx_iload_n hX 3 dX4_dependentsOf_19 rfl rfl ?_
        refine gx_iald (i := k) hC (gM6 hM) rfl rfl (by omega) rfl dX4_dependentsOf_20 rfl ?_
        refine gx_iload_n hX 1 dX4_dependentsOf_21 rfl rfl ?_
        refine gx_ishr hX dX4_dependentsOf_22 rfl ?_
        refine gx_iconst (v := 1) hX dX4_dependentsOf_23 rfl (by decide) ?_
        refine gx_iand hX dX4_dependentsOf_24 rfl ?_
        refine gx_iload_n hX 3 dX4_dependentsOf_25 rfl rfl ?_
        refine gx_ishl hX dX4_dependentsOf_26 rfl ?_
        refine gx_ior hX dX4_dependentsOf_27 rfl ?_
        refine gx_topi (b := (qdpt (qg r n) i (k + 1))) (qdpt_s (g := qg r n) hr3 h11 hi (hal k i h11 hi)) ?_
        refine gx_istore_n (lv' := [(2, .int (qdpt (qg r n) i (k + 1))), (0, .ref mo), (1, .int (nI i)), (3, .int (nI k))]) hX dX4_dependentsOf_28 rfl (by decide) rfl ?_
        refine gx_iinc (w := (nI (k + 1))) (lv' := [(3, .int (nI (k + 1))), (2, .int (qdpt (qg r n) i (k + 1))), (0, .ref mo), (1, .int (nI i))]) hX 3 dX4_dependentsOf_29 rfl rfl (nI_add _ _) (by decide) rfl ?_
        refine gx_goto (pc' := 4) hX dX4_dependentsOf_32 (by decide) ?_
        exact gx_sub [2, 3, 1, 0] rfl (ih4 (k + 1) (by omega) (by omega))
  exact gx_sub [2, 3, 1, 0] rfl (L4 (n + 1) 0 (by omega) (by omega))

set_option maxRecDepth 100000 in
set_option maxHeartbeats 4000000 in
theorem c_X4_status (l : Launch) (Y : gL) (mo : Nat) (σ : gS) (r : Nat → Int32) (n : Nat) (P : Nat → Nat → Int32) (q : Nat) (cn : Nat → Int32) (hM : gLM Y mo) (hA : gMA Y mo σ (r, n, P, q, cn)) (B : Nat) (hB : B + 12 < 2 ^ 30) (hI : qAI (r, n, P, q, cn) B) (w1 : Int32) : gM l yX4_status cX4_status 2 (some .int) (gRm 7 152) Y [.ref mo, .int w1] σ (gI fun z τ => (qstatus (r, n, P, q, cn) w1).1 = z ∧ gMA Y mo τ (qstatus (r, n, P, q, cn) w1).2) := by
  have hr : gRow Y mo σ r n := hA.1
  have hr2 := hr.2.1
  have hr3 := hr.2.2
  have hI1 : qRI r n B := hI.1
  refine gM.of (by decide) rfl ?_
  intro p e s m args below meth c hC
  have hX := hC.1
  refine gx_aload_n hX 0 dX4_status_0 rfl rfl ?_
  refine gx_iload_n hX 1 dX4_status_1 rfl rfl ?_
  refine gx_callV (As := [.int w1]) (st := []) hC (c_X4_isCell l Y mo σ r n hM hr w1) kX4_isCell wm_RX4_115 rfl (gM0 hM) rfl rfl rfl rfl rfl dX4_status_2 rfl (gx_ki fun r2 τ2 hq2 => ?_)
  obtain ⟨rfl, ⟨rfl, hb2⟩ | ⟨rfl, hb2⟩⟩ := hq2
  · obtain ⟨j, hj, rfl⟩ := hb2
    refine gx_if_ne_t (tgt := 16) hX dX4_status_5 (by decide) (by decide) ?_
    refine gx_aload_n hX 0 dX4_status_16 rfl rfl ?_
    refine gx_callV (As := []) (st := []) hC (c_X4_derive l Y mo σ r n hM hr) kX4_derive wm_RX4_102 rfl (gM0 hM) rfl rfl rfl rfl rfl dX4_status_17 rfl (gx_kv fun τ17 hq17 => ?_)
    have hrd : gRow Y mo τ17 r n := hr.eq hM hq17.1 (by decide)
    have hAd : gMA Y mo τ17 (r, n, P, q, cn) := hA.eq hM hq17.1 hq17.2.1 (by decide) (by decide) (by decide)
    obtain ⟨hq17e, hq17s, hD1, hD2, hD3, hD4, hD5, hD6⟩ := hq17
    have hqn := qm_le (qg r n)
    have hqn2 : qn (qg r n) = n := rfl
    refine gx_aload_n hX 0 dX4_status_20 rfl rfl ?_
    refine gx_iload_n hX 1 dX4_status_21 rfl rfl ?_
    refine gx_callV (As := [.int (nI j)]) (st := []) hC (c_X4_statusOf l Y mo τ17 r n hM hrd hD3 hD6 j (by omega)) kX4_statusOf wm_RX4_139 rfl (gM0 hM) rfl rfl rfl rfl rfl dX4_status_22 rfl (gx_ki fun r22 τ22 hq22 => ?_)
    obtain ⟨rfl, rfl⟩ := hq22
    refine gx_iret hC dX4_status_25 ?_
    have hz : qstatus (r, n, P, q, cn) (nI j) = (qsta (qg r n) r j, (r, n, P, q, cn)) := qcell_some hr3 hj
    rw [hz]
    exact ⟨rfl, hAd⟩
  · refine gx_if_ne_f (tgt := 16) hX dX4_status_5 (by decide) rfl (by decide) ?_
    refine gx_aload_n hX 0 dX4_status_8 rfl rfl ?_
    refine gx_sipush (v := (-10002)) hX dX4_status_9 rfl (by decide) ?_
    refine gx_callV (As := [.int (-10002)]) (st := []) hC (c_X4_error l Y mo σ 0 (-10002) hM (by decide) (by decide)) kX4_error wm_RX4_118 rfl (gM0 hM) rfl rfl rfl rfl rfl dX4_status_12 rfl (gx_ki fun r12 τ12 hq12 => ?_)
    obtain ⟨rfl, rfl⟩ := hq12
    refine gx_iret hC dX4_status_15 ?_
    have hz : qstatus (r, n, P, q, cn) w1 = (-10002, qfail (r, n, P, q, cn) 0) := qcell_none hr3 hb2
    rw [hz]
    exact ⟨rfl, hA.fail hM⟩

set_option maxRecDepth 100000 in
set_option maxHeartbeats 4000000 in
theorem c_X4_value (l : Launch) (Y : gL) (mo : Nat) (σ : gS) (r : Nat → Int32) (n : Nat) (P : Nat → Nat → Int32) (q : Nat) (cn : Nat → Int32) (hM : gLM Y mo) (hA : gMA Y mo σ (r, n, P, q, cn)) (B : Nat) (hB : B + 12 < 2 ^ 30) (hI : qAI (r, n, P, q, cn) B) (w1 : Int32) : gM l yX4_value cX4_value 2 (some .int) (gRm 7 152) Y [.ref mo, .int w1] σ (gI fun z τ => (qvalue (r, n, P, q, cn) w1).1 = z ∧ gMA Y mo τ (qvalue (r, n, P, q, cn) w1).2) := by
  have hr : gRow Y mo σ r n := hA.1
  have hr2 := hr.2.1
  have hr3 := hr.2.2
  have hI1 : qRI r n B := hI.1
  refine gM.of (by decide) rfl ?_
  intro p e s m args below meth c hC
  have hX := hC.1
  refine gx_aload_n hX 0 dX4_value_0 rfl rfl ?_
  refine gx_iload_n hX 1 dX4_value_1 rfl rfl ?_
  refine gx_callV (As := [.int w1]) (st := []) hC (c_X4_isCell l Y mo σ r n hM hr w1) kX4_isCell wm_RX4_115 rfl (gM0 hM) rfl rfl rfl rfl rfl dX4_value_2 rfl (gx_ki fun r2 τ2 hq2 => ?_)
  obtain ⟨rfl, ⟨rfl, hb2⟩ | ⟨rfl, hb2⟩⟩ := hq2
  · obtain ⟨j, hj, rfl⟩ := hb2
    refine gx_if_ne_t (tgt := 16) hX dX4_value_5 (by decide) (by decide) ?_
    refine gx_aload_n hX 0 dX4_value_16 rfl rfl ?_
    refine gx_callV (As := []) (st := []) hC (c_X4_derive l Y mo σ r n hM hr) kX4_derive wm_RX4_102 rfl (gM0 hM) rfl rfl rfl rfl rfl dX4_value_17 rfl (gx_kv fun τ17 hq17 => ?_)
    have hrd : gRow Y mo τ17 r n := hr.eq hM hq17.1 (by decide)
    have hAd : gMA Y mo τ17 (r, n, P, q, cn) := hA.eq hM hq17.1 hq17.2.1 (by decide) (by decide) (by decide)
    obtain ⟨hq17e, hq17s, hD1, hD2, hD3, hD4, hD5, hD6⟩ := hq17
    have hqn := qm_le (qg r n)
    have hqn2 : qn (qg r n) = n := rfl
    refine gx_aload_n hX 0 dX4_value_20 rfl rfl ?_
    refine gx_iload_n hX 1 dX4_value_21 rfl rfl ?_
    refine gx_callV (As := [.int (nI j)]) (st := []) hC (c_X4_valueAt l Y mo τ17 r n hM hrd hD3 hD6 j (by omega)) kX4_valueAt wm_RX4_142 rfl (gM0 hM) rfl rfl rfl rfl rfl dX4_value_22 rfl (gx_ki fun r22 τ22 hq22 => ?_)
    obtain ⟨rfl, rfl⟩ := hq22
    refine gx_iret hC dX4_value_25 ?_
    have hz : qvalue (r, n, P, q, cn) (nI j) = (qval (qg r n) r j, (r, n, P, q, cn)) := qcell_some hr3 hj
    rw [hz]
    exact ⟨rfl, hAd⟩
  · refine gx_if_ne_f (tgt := 16) hX dX4_value_5 (by decide) rfl (by decide) ?_
    refine gx_aload_n hX 0 dX4_value_8 rfl rfl ?_
    refine gx_sipush (v := (-10002)) hX dX4_value_9 rfl (by decide) ?_
    refine gx_callV (As := [.int (-10002)]) (st := []) hC (c_X4_error l Y mo σ 0 (-10002) hM (by decide) (by decide)) kX4_error wm_RX4_118 rfl (gM0 hM) rfl rfl rfl rfl rfl dX4_value_12 rfl (gx_ki fun r12 τ12 hq12 => ?_)
    obtain ⟨rfl, rfl⟩ := hq12
    refine gx_iret hC dX4_value_15 ?_
    have hz : qvalue (r, n, P, q, cn) w1 = (-10002, qfail (r, n, P, q, cn) 0) := qcell_none hr3 hb2
    rw [hz]
    exact ⟨rfl, hA.fail hM⟩

set_option maxRecDepth 100000 in
set_option maxHeartbeats 4000000 in
theorem c_X4_dependencies (l : Launch) (Y : gL) (mo : Nat) (σ : gS) (r : Nat → Int32) (n : Nat) (P : Nat → Nat → Int32) (q : Nat) (cn : Nat → Int32) (hM : gLM Y mo) (hA : gMA Y mo σ (r, n, P, q, cn)) (B : Nat) (hB : B + 12 < 2 ^ 30) (hI : qAI (r, n, P, q, cn) B) (w1 : Int32) : gM l yX4_dependencies cX4_dependencies 2 (some .int) (gRm 7 152) Y [.ref mo, .int w1] σ (gI fun z τ => (qdependencies (r, n, P, q, cn) w1).1 = z ∧ gMA Y mo τ (qdependencies (r, n, P, q, cn) w1).2) := by
  have hr : gRow Y mo σ r n := hA.1
  have hr2 := hr.2.1
  have hr3 := hr.2.2
  have hI1 : qRI r n B := hI.1
  refine gM.of (by decide) rfl ?_
  intro p e s m args below meth c hC
  have hX := hC.1
  refine gx_aload_n hX 0 dX4_dependencies_0 rfl rfl ?_
  refine gx_iload_n hX 1 dX4_dependencies_1 rfl rfl ?_
  refine gx_callV (As := [.int w1]) (st := []) hC (c_X4_isCell l Y mo σ r n hM hr w1) kX4_isCell wm_RX4_115 rfl (gM0 hM) rfl rfl rfl rfl rfl dX4_dependencies_2 rfl (gx_ki fun r2 τ2 hq2 => ?_)
  obtain ⟨rfl, ⟨rfl, hb2⟩ | ⟨rfl, hb2⟩⟩ := hq2
  · obtain ⟨j, hj, rfl⟩ := hb2
    refine gx_if_ne_t (tgt := 16) hX dX4_dependencies_5 (by decide) (by decide) ?_
    refine gx_aload_n hX 0 dX4_dependencies_16 rfl rfl ?_
    refine gx_callV (As := []) (st := []) hC (c_X4_derive l Y mo σ r n hM hr) kX4_derive wm_RX4_102 rfl (gM0 hM) rfl rfl rfl rfl rfl dX4_dependencies_17 rfl (gx_kv fun τ17 hq17 => ?_)
    have hrd : gRow Y mo τ17 r n := hr.eq hM hq17.1 (by decide)
    have hAd : gMA Y mo τ17 (r, n, P, q, cn) := hA.eq hM hq17.1 hq17.2.1 (by decide) (by decide) (by decide)
    obtain ⟨hq17e, hq17s, hD1, hD2, hD3, hD4, hD5, hD6⟩ := hq17
    have hqn := qm_le (qg r n)
    have hqn2 : qn (qg r n) = n := rfl
    refine gx_aload_n hX 0 dX4_dependencies_20 rfl rfl ?_
    refine gx_get hC 4 inlX4 wf_RX4_19 rfl (gM0 hM) rfl rfl rfl rfl dX4_dependencies_21 rfl ?_
    refine gx_iload_n hX 1 dX4_dependencies_24 rfl rfl ?_
    refine gx_iald (i := j) hC (gM4 hM) rfl rfl (by omega) rfl dX4_dependencies_25 rfl ?_
    refine gx_iret hC dX4_dependencies_26 ?_
    have hz : qdependencies (r, n, P, q, cn) (nI j) = (qdir (qg r n) j, (r, n, P, q, cn)) := qcell_some hr3 hj
    rw [hz]
    exact ⟨(hD1 j hj).symm, hAd⟩
  · refine gx_if_ne_f (tgt := 16) hX dX4_dependencies_5 (by decide) rfl (by decide) ?_
    refine gx_aload_n hX 0 dX4_dependencies_8 rfl rfl ?_
    refine gx_sipush (v := (-10002)) hX dX4_dependencies_9 rfl (by decide) ?_
    refine gx_callV (As := [.int (-10002)]) (st := []) hC (c_X4_error l Y mo σ 0 (-10002) hM (by decide) (by decide)) kX4_error wm_RX4_118 rfl (gM0 hM) rfl rfl rfl rfl rfl dX4_dependencies_12 rfl (gx_ki fun r12 τ12 hq12 => ?_)
    obtain ⟨rfl, rfl⟩ := hq12
    refine gx_iret hC dX4_dependencies_15 ?_
    have hz : qdependencies (r, n, P, q, cn) w1 = (-10002, qfail (r, n, P, q, cn) 0) := qcell_none hr3 hb2
    rw [hz]
    exact ⟨rfl, hA.fail hM⟩

set_option maxRecDepth 100000 in
set_option maxHeartbeats 4000000 in
theorem c_X4_dependents (l : Launch) (Y : gL) (mo : Nat) (σ : gS) (r : Nat → Int32) (n : Nat) (P : Nat → Nat → Int32) (q : Nat) (cn : Nat → Int32) (hM : gLM Y mo) (hA : gMA Y mo σ (r, n, P, q, cn)) (B : Nat) (hB : B + 12 < 2 ^ 30) (hI : qAI (r, n, P, q, cn) B) (w1 : Int32) : gM l yX4_dependents cX4_dependents 2 (some .int) (gRm 7 152) Y [.ref mo, .int w1] σ (gI fun z τ => (qdependents (r, n, P, q, cn) w1).1 = z ∧ gMA Y mo τ (qdependents (r, n, P, q, cn) w1).2) := by
  have hr : gRow Y mo σ r n := hA.1
  have hr2 := hr.2.1
  have hr3 := hr.2.2
  have hI1 : qRI r n B := hI.1
  refine gM.of (by decide) rfl ?_
  intro p e s m args below meth c hC
  have hX := hC.1
  refine gx_aload_n hX 0 dX4_dependents_0 rfl rfl ?_
  refine gx_iload_n hX 1 dX4_dependents_1 rfl rfl ?_
  refine gx_callV (As := [.int w1]) (st := []) hC (c_X4_isCell l Y mo σ r n hM hr w1) kX4_isCell wm_RX4_115 rfl (gM0 hM) rfl rfl rfl rfl rfl dX4_dependents_2 rfl (gx_ki fun r2 τ2 hq2 => ?_)
  obtain ⟨rfl, ⟨rfl, hb2⟩ | ⟨rfl, hb2⟩⟩ := hq2
  · obtain ⟨j, hj, rfl⟩ := hb2
    refine gx_if_ne_t (tgt := 16) hX dX4_dependents_5 (by decide) (by decide) ?_
    refine gx_aload_n hX 0 dX4_dependents_16 rfl rfl ?_
    refine gx_callV (As := []) (st := []) hC (c_X4_derive l Y mo σ r n hM hr) kX4_derive wm_RX4_102 rfl (gM0 hM) rfl rfl rfl rfl rfl dX4_dependents_17 rfl (gx_kv fun τ17 hq17 => ?_)
    have hrd : gRow Y mo τ17 r n := hr.eq hM hq17.1 (by decide)
    have hAd : gMA Y mo τ17 (r, n, P, q, cn) := hA.eq hM hq17.1 hq17.2.1 (by decide) (by decide) (by decide)
    obtain ⟨hq17e, hq17s, hD1, hD2, hD3, hD4, hD5, hD6⟩ := hq17
    have hqn := qm_le (qg r n)
    have hqn2 : qn (qg r n) = n := rfl
    refine gx_aload_n hX 0 dX4_dependents_20 rfl rfl ?_
    refine gx_iload_n hX 1 dX4_dependents_21 rfl rfl ?_
    refine gx_callV (As := [.int (nI j)]) (st := []) hC (c_X4_dependentsOf l Y mo τ17 r n hM hrd hD2 j (by omega)) kX4_dependentsOf wm_RX4_145 rfl (gM0 hM) rfl rfl rfl rfl rfl dX4_dependents_22 rfl (gx_ki fun r22 τ22 hq22 => ?_)
    obtain ⟨rfl, rfl⟩ := hq22
    refine gx_iret hC dX4_dependents_25 ?_
    have hz : qdependents (r, n, P, q, cn) (nI j) = (qdpt (qg r n) j n, (r, n, P, q, cn)) := qcell_some hr3 hj
    rw [hz]
    exact ⟨rfl, hAd⟩
  · refine gx_if_ne_f (tgt := 16) hX dX4_dependents_5 (by decide) rfl (by decide) ?_
    refine gx_aload_n hX 0 dX4_dependents_8 rfl rfl ?_
    refine gx_sipush (v := (-10002)) hX dX4_dependents_9 rfl (by decide) ?_
    refine gx_callV (As := [.int (-10002)]) (st := []) hC (c_X4_error l Y mo σ 0 (-10002) hM (by decide) (by decide)) kX4_error wm_RX4_118 rfl (gM0 hM) rfl rfl rfl rfl rfl dX4_dependents_12 rfl (gx_ki fun r12 τ12 hq12 => ?_)
    obtain ⟨rfl, rfl⟩ := hq12
    refine gx_iret hC dX4_dependents_15 ?_
    have hz : qdependents (r, n, P, q, cn) w1 = (-10002, qfail (r, n, P, q, cn) 0) := qcell_none hr3 hb2
    rw [hz]
    exact ⟨rfl, hA.fail hM⟩

set_option maxRecDepth 100000 in
set_option maxHeartbeats 4000000 in
theorem c_X4_valueOf (l : Launch) (Y : gL) (mo : Nat) (σ : gS) (r : Nat → Int32) (n : Nat) (P : Nat → Nat → Int32) (q : Nat) (cn : Nat → Int32) (hM : gLM Y mo) (hA : gMA Y mo σ (r, n, P, q, cn)) (B : Nat) (hB : B + 12 < 2 ^ 30) (hI : qAI (r, n, P, q, cn) B) (x : Int32) : gM l yX4_valueOf cX4_valueOf 3 (some .int) (gRm 7 152) Y [.ref mo, .int x] σ (gI fun z τ => (qvalueOf (r, n, P, q, cn) x).1 = z ∧ gMA Y mo τ (qvalueOf (r, n, P, q, cn) x).2) := by
  have hr : gRow Y mo σ r n := hA.1
  have hr2 := hr.2.1
  have hr3 := hr.2.2
  have hI1 : qRI r n B := hI.1
  refine gM.of (by decide) rfl ?_
  intro p e s m args below meth c hC
  have hX := hC.1
  refine gx_iload_n hX 1 dX4_valueOf_0 rfl rfl ?_
  refine gx_iconst (v := 0) hX dX4_valueOf_1 rfl (by decide) ?_
  refine gx_bipush (v := 9) hX dX4_valueOf_2 rfl (by decide) ?_
  refine gx_callS (As := [.int x, .int 0, .int 9]) (st := []) hC (c_X4_in l Y σ x 0 9) kX4_in wm_RX4_42 rfl rfl rfl rfl dX4_valueOf_4 rfl (gx_ki fun r4 τ4 hq4 => ?_)
  obtain ⟨rfl, ⟨rfl, hb4⟩ | ⟨rfl, hb4⟩⟩ := hq4
  · refine gx_if_ne_t (tgt := 18) hX dX4_valueOf_7 (by decide) (by decide) ?_
    refine gx_aload_n hX 0 dX4_valueOf_18 rfl rfl ?_
    refine gx_callV (As := []) (st := []) hC (c_X4_derive l Y mo σ r n hM hr) kX4_derive wm_RX4_102 rfl (gM0 hM) rfl rfl rfl rfl rfl dX4_valueOf_19 rfl (gx_kv fun τ19 hq19 => ?_)
    have hrd : gRow Y mo τ19 r n := hr.eq hM hq19.1 (by decide)
    have hAd : gMA Y mo τ19 (r, n, P, q, cn) := hA.eq hM hq19.1 hq19.2.1 (by decide) (by decide) (by decide)
    obtain ⟨hq19e, hq19s, hD1, hD2, hD3, hD4, hD5, hD6⟩ := hq19
    have hqn := qm_le (qg r n)
    have hqn2 : qn (qg r n) = n := rfl
    refine gx_aload_n hX 0 dX4_valueOf_22 rfl rfl ?_
    refine gx_iload_n hX 1 dX4_valueOf_23 rfl rfl ?_
    refine gx_callV (As := [.int x]) (st := []) hC (c_X4_definersOf l Y mo τ19 r n hM hrd x) kX4_definersOf wm_RX4_53 rfl (gM0 hM) rfl rfl rfl rfl rfl dX4_valueOf_24 rfl (gx_ki fun r24 τ24 hq24 => ?_)
    obtain ⟨rfl, rfl⟩ := hq24
    refine gx_callS (As := [.int (qdf (qg r n) x)]) (st := []) hC (c_X4_only l Y τ19 ((qdf (qg r n) x))) kX4_only wm_RX4_57 rfl rfl rfl rfl dX4_valueOf_27 rfl (gx_ki fun r27 τ27 hq27 => ?_)
    obtain ⟨rfl, ⟨rfl, hb27⟩ | ⟨rfl, hb27⟩⟩ := hq27
    · have hon : qonl (qdf (qg r n) x) < n := qonl_lt (g := qg r n) hr3 hb27
      refine gx_istore_n (lv' := [(2, .int (nI (qonl (qdf (qg r n) x)))), (0, .ref mo), (1, .int x)]) hX dX4_valueOf_30 rfl (by decide) rfl ?_
      refine gx_iload_n hX 0 dX4_valueOf_31 rfl rfl ?_
      refine gx_sipush (v := (-10001)) hX dX4_valueOf_32 rfl (by decide) ?_
      refine gx_icmp_ne_t (tgt := 44) hX dX4_valueOf_35 (by decide) (nI_neg (by omega) (by decide)) ?_
      refine gx_aload_n hX 1 dX4_valueOf_44 rfl rfl ?_
      refine gx_iload_n hX 0 dX4_valueOf_45 rfl rfl ?_
      refine gx_callV (As := [.int (nI (qonl (qdf (qg r n) x)))]) (st := []) hC (c_X4_valueAt l Y mo τ19 r n hM hrd hD3 hD6 (qonl (qdf (qg r n) x)) (by omega)) kX4_valueAt wm_RX4_142 rfl (gM0 hM) rfl rfl rfl rfl rfl dX4_valueOf_46 rfl (gx_ki fun r46 τ46 hq46 => ?_)
      obtain ⟨rfl, rfl⟩ := hq46
      refine gx_iret hC dX4_valueOf_49 ?_
      have hz : qvalueOf (r, n, P, q, cn) x = (qvof (qg r n) r (qonl (qdf (qg r n) x)), (r, n, P, q, cn)) := if_pos hb4
      rw [hz]
      exact ⟨qvof_y hb27, hAd⟩
    · refine gx_istore_n (lv' := [(2, .int (-10001)), (0, .ref mo), (1, .int x)]) hX dX4_valueOf_30 rfl (by decide) rfl ?_
      refine gx_iload_n hX 0 dX4_valueOf_31 rfl rfl ?_
      refine gx_sipush (v := (-10001)) hX dX4_valueOf_32 rfl (by decide) ?_
      refine gx_icmp_ne_f (tgt := 44) hX dX4_valueOf_35 (by decide) rfl (by decide) ?_
      refine gx_sipush (v := (-10001)) hX dX4_valueOf_38 rfl (by decide) ?_
      refine gx_goto (pc' := 49) hX dX4_valueOf_41 (by decide) ?_
      refine gx_iret hC dX4_valueOf_49 ?_
      have hz : qvalueOf (r, n, P, q, cn) x = (qvof (qg r n) r (qonl (qdf (qg r n) x)), (r, n, P, q, cn)) := if_pos hb4
      rw [hz]
      exact ⟨qvof_n hb27, hAd⟩
  · refine gx_if_ne_f (tgt := 18) hX dX4_valueOf_7 (by decide) rfl (by decide) ?_
    refine gx_aload_n hX 0 dX4_valueOf_10 rfl rfl ?_
    refine gx_sipush (v := (-10002)) hX dX4_valueOf_11 rfl (by decide) ?_
    refine gx_callV (As := [.int (-10002)]) (st := []) hC (c_X4_error l Y mo σ 0 (-10002) hM (by decide) (by decide)) kX4_error wm_RX4_118 rfl (gM0 hM) rfl rfl rfl rfl rfl dX4_valueOf_14 rfl (gx_ki fun r14 τ14 hq14 => ?_)
    obtain ⟨rfl, rfl⟩ := hq14
    refine gx_iret hC dX4_valueOf_17 ?_
    have hz : qvalueOf (r, n, P, q, cn) x = (-10002, qfail (r, n, P, q, cn) 0) := if_neg hb4
    rw [hz]
    exact ⟨rfl, hA.fail hM⟩

set_option maxRecDepth 100000 in
set_option maxHeartbeats 4000000 in
theorem c_X4_definers (l : Launch) (Y : gL) (mo : Nat) (σ : gS) (r : Nat → Int32) (n : Nat) (P : Nat → Nat → Int32) (q : Nat) (cn : Nat → Int32) (hM : gLM Y mo) (hA : gMA Y mo σ (r, n, P, q, cn)) (B : Nat) (hB : B + 12 < 2 ^ 30) (hI : qAI (r, n, P, q, cn) B) (x : Int32) : gM l yX4_definers cX4_definers 2 (some .int) (gRm 3 66) Y [.ref mo, .int x] σ (gI fun z τ => (qdefiners (r, n, P, q, cn) x).1 = z ∧ gMA Y mo τ (qdefiners (r, n, P, q, cn) x).2) := by
  have hr : gRow Y mo σ r n := hA.1
  have hr2 := hr.2.1
  have hr3 := hr.2.2
  have hI1 : qRI r n B := hI.1
  refine gM.of (by decide) rfl ?_
  intro p e s m args below meth c hC
  have hX := hC.1
  refine gx_iload_n hX 1 dX4_definers_0 rfl rfl ?_
  refine gx_iconst (v := 0) hX dX4_definers_1 rfl (by decide) ?_
  refine gx_bipush (v := 9) hX dX4_definers_2 rfl (by decide) ?_
  refine gx_callS (As := [.int x, .int 0, .int 9]) (st := []) hC (c_X4_in l Y σ x 0 9) kX4_in wm_RX4_42 rfl rfl rfl rfl dX4_definers_4 rfl (gx_ki fun r4 τ4 hq4 => ?_)
  obtain ⟨rfl, ⟨rfl, hb4⟩ | ⟨rfl, hb4⟩⟩ := hq4
  · refine gx_if_eq_f (tgt := 18) hX dX4_definers_7 (by decide) rfl (by decide) ?_
    refine gx_aload_n hX 0 dX4_definers_10 rfl rfl ?_
    refine gx_iload_n hX 1 dX4_definers_11 rfl rfl ?_
    refine gx_callV (As := [.int x]) (st := []) hC (c_X4_definersOf l Y mo σ r n hM hr x) kX4_definersOf wm_RX4_53 rfl (gM0 hM) rfl rfl rfl rfl rfl dX4_definers_12 rfl (gx_ki fun r12 τ12 hq12 => ?_)
    obtain ⟨rfl, rfl⟩ := hq12
    refine gx_goto (pc' := 25) hX dX4_definers_15 (by decide) ?_
    refine gx_iret hC dX4_definers_25 ?_
    have hz : qdefiners (r, n, P, q, cn) x = (qdf (qg r n) x, (r, n, P, q, cn)) := if_pos hb4
    rw [hz]
    exact ⟨rfl, hA⟩
  · refine gx_if_eq_t (tgt := 18) hX dX4_definers_7 (by decide) (by decide) ?_
    refine gx_aload_n hX 0 dX4_definers_18 rfl rfl ?_
    refine gx_sipush (v := (-10002)) hX dX4_definers_19 rfl (by decide) ?_
    refine gx_callV (As := [.int (-10002)]) (st := []) hC (c_X4_error l Y mo σ 0 (-10002) hM (by decide) (by decide)) kX4_error wm_RX4_118 rfl (gM0 hM) rfl rfl rfl rfl rfl dX4_definers_22 rfl (gx_ki fun r22 τ22 hq22 => ?_)
    obtain ⟨rfl, rfl⟩ := hq22
    refine gx_iret hC dX4_definers_25 ?_
    have hz : qdefiners (r, n, P, q, cn) x = (-10002, qfail (r, n, P, q, cn) 0) := if_neg hb4
    rw [hz]
    exact ⟨rfl, hA.fail hM⟩

set_option maxRecDepth 100000 in
set_option maxHeartbeats 4000000 in
theorem c_X4_runnableCount (l : Launch) (Y : gL) (mo : Nat) (σ : gS) (r : Nat → Int32) (n : Nat) (P : Nat → Nat → Int32) (q : Nat) (cn : Nat → Int32) (hM : gLM Y mo) (hA : gMA Y mo σ (r, n, P, q, cn)) (B : Nat) (hB : B + 12 < 2 ^ 30) (hI : qAI (r, n, P, q, cn) B) : gM l yX4_runnableCount cX4_runnableCount 1 (some .int) (gRm 7 152) Y [.ref mo] σ (gI fun z τ => (qrunnableCount (r, n, P, q, cn)).1 = z ∧ gMA Y mo τ (qrunnableCount (r, n, P, q, cn)).2) := by
  have hr : gRow Y mo σ r n := hA.1
  have hr2 := hr.2.1
  have hr3 := hr.2.2
  have hI1 : qRI r n B := hI.1
  refine gM.of (by decide) rfl ?_
  intro p e s m args below meth c hC
  have hX := hC.1
  refine gx_aload_n hX 0 dX4_runnableCount_0 rfl rfl ?_
  refine gx_callV (As := []) (st := []) hC (c_X4_derive l Y mo σ r n hM hr) kX4_derive wm_RX4_102 rfl (gM0 hM) rfl rfl rfl rfl rfl dX4_runnableCount_1 rfl (gx_kv fun τ1 hq1 => ?_)
  have hrd : gRow Y mo τ1 r n := hr.eq hM hq1.1 (by decide)
  have hAd : gMA Y mo τ1 (r, n, P, q, cn) := hA.eq hM hq1.1 hq1.2.1 (by decide) (by decide) (by decide)
  obtain ⟨hq1e, hq1s, hD1, hD2, hD3, hD4, hD5, hD6⟩ := hq1
  have hqn := qm_le (qg r n)
  have hqn2 : qn (qg r n) = n := rfl
  refine gx_aload_n hX 0 dX4_runnableCount_4 rfl rfl ?_
  refine gx_get hC 8 inlX4 wf_RX4_70 rfl (gM0 hM) rfl rfl rfl rfl dX4_runnableCount_5 rfl ?_
  exact gx_iret hC dX4_runnableCount_8 (⟨hD4.symm, hAd⟩)

set_option maxRecDepth 100000 in
set_option maxHeartbeats 4000000 in
theorem c_X4_runOrder (l : Launch) (Y : gL) (mo : Nat) (σ : gS) (r : Nat → Int32) (n : Nat) (P : Nat → Nat → Int32) (q : Nat) (cn : Nat → Int32) (hM : gLM Y mo) (hA : gMA Y mo σ (r, n, P, q, cn)) (B : Nat) (hB : B + 12 < 2 ^ 30) (hI : qAI (r, n, P, q, cn) B) (x : Int32) : gM l yX4_runOrder cX4_runOrder 2 (some .int) (gRm 7 152) Y [.ref mo, .int x] σ (gI fun z τ => (qrunOrder (r, n, P, q, cn) x).1 = z ∧ gMA Y mo τ (qrunOrder (r, n, P, q, cn) x).2) := by
  have hr : gRow Y mo σ r n := hA.1
  have hr2 := hr.2.1
  have hr3 := hr.2.2
  have hI1 : qRI r n B := hI.1
  refine gM.of (by decide) rfl ?_
  intro p e s m args below meth c hC
  have hX := hC.1
  refine gx_iload_n hX 1 dX4_runOrder_0 rfl rfl ?_
  refine gx_if_ge (tgt := 12) hX dX4_runOrder_1 (by decide) rfl (fun h1 => ?_) (fun h1 => ?_)
  · obtain ⟨j, hj, rfl⟩ := nI_of (Int32.not_lt.mpr h1)
    refine gx_aload_n hX 0 dX4_runOrder_12 rfl rfl ?_
    refine gx_callV (As := []) (st := []) hC (c_X4_derive l Y mo σ r n hM hr) kX4_derive wm_RX4_102 rfl (gM0 hM) rfl rfl rfl rfl rfl dX4_runOrder_13 rfl (gx_kv fun τ13 hq13 => ?_)
    have hrd : gRow Y mo τ13 r n := hr.eq hM hq13.1 (by decide)
    have hAd : gMA Y mo τ13 (r, n, P, q, cn) := hA.eq hM hq13.1 hq13.2.1 (by decide) (by decide) (by decide)
    obtain ⟨hq13e, hq13s, hD1, hD2, hD3, hD4, hD5, hD6⟩ := hq13
    have hqn := qm_le (qg r n)
    have hqn2 : qn (qg r n) = n := rfl
    refine gx_iload_n hX 1 dX4_runOrder_16 rfl rfl ?_
    refine gx_aload_n hX 0 dX4_runOrder_17 rfl rfl ?_
    refine gx_get hC 8 inlX4 wf_RX4_70 rfl (gM0 hM) rfl rfl rfl rfl dX4_runOrder_18 rfl ?_
    refine gx_topi (b := (nI (qm (qg r n)))) hD4 ?_
    refine gx_nat_ge (i := j) (j := qm (qg r n)) (tgt := 33) hX dX4_runOrder_21 (by decide) rfl rfl rfl (by omega) (by omega) (fun h21 => ?_) (fun h21 => ?_)
    · refine gx_sipush (v := (-10001)) hX dX4_runOrder_33 rfl (by decide) ?_
      refine gx_iret hC dX4_runOrder_36 ?_
      have hz : qrunOrder (r, n, P, q, cn) (nI j) = (-10001, (r, n, P, q, cn)) := (if_neg (nI_pos hj)).trans (if_neg (nI_nlt h21 hj))
      rw [hz]
      exact ⟨rfl, hAd⟩
    · refine gx_aload_n hX 0 dX4_runOrder_24 rfl rfl ?_
      refine gx_get hC 7 inlX4 wf_RX4_28 rfl (gM0 hM) rfl rfl rfl rfl dX4_runOrder_25 rfl ?_
      refine gx_iload_n hX 1 dX4_runOrder_28 rfl rfl ?_
      refine gx_iald (i := j) hC (gM7 hM) rfl rfl (by omega) rfl dX4_runOrder_29 rfl ?_
      refine gx_topi (b := (nI (qo (qg r n) j))) (hD5 j h21) ?_
      refine gx_goto (pc' := 36) hX dX4_runOrder_30 (by decide) ?_
      refine gx_iret hC dX4_runOrder_36 ?_
      have hz : qrunOrder (r, n, P, q, cn) (nI j) = (nI (qo (qg r n) (nI j).toNatClampNeg), (r, n, P, q, cn)) := (if_neg (nI_pos hj)).trans (if_pos (nI_lt h21 (by omega)))
      rw [hz]
      exact ⟨by rw [nI_clamp hj], hAd⟩
  · have h1n : x < 0 := Int32.not_le.mp h1
    refine gx_aload_n hX 0 dX4_runOrder_4 rfl rfl ?_
    refine gx_sipush (v := (-10002)) hX dX4_runOrder_5 rfl (by decide) ?_
    refine gx_callV (As := [.int (-10002)]) (st := []) hC (c_X4_error l Y mo σ 0 (-10002) hM (by decide) (by decide)) kX4_error wm_RX4_118 rfl (gM0 hM) rfl rfl rfl rfl rfl dX4_runOrder_8 rfl (gx_ki fun r8 τ8 hq8 => ?_)
    obtain ⟨rfl, rfl⟩ := hq8
    refine gx_iret hC dX4_runOrder_11 ?_
    have hz : qrunOrder (r, n, P, q, cn) x = (-10002, qfail (r, n, P, q, cn) 0) := if_pos h1n
    rw [hz]
    exact ⟨rfl, hA.fail hM⟩

set_option maxRecDepth 100000 in
set_option maxHeartbeats 4000000 in
theorem c_X4_staleCount (l : Launch) (Y : gL) (mo : Nat) (σ : gS) (r : Nat → Int32) (n : Nat) (P : Nat → Nat → Int32) (q : Nat) (cn : Nat → Int32) (hM : gLM Y mo) (hA : gMA Y mo σ (r, n, P, q, cn)) (B : Nat) (hB : B + 12 < 2 ^ 30) (hI : qAI (r, n, P, q, cn) B) : gM l yX4_staleCount cX4_staleCount 3 (some .int) (gRm 7 152) Y [.ref mo] σ (gI fun z τ => (qstaleCount (r, n, P, q, cn)).1 = z ∧ gMA Y mo τ (qstaleCount (r, n, P, q, cn)).2) := by
  have hr : gRow Y mo σ r n := hA.1
  have hr2 := hr.2.1
  have hr3 := hr.2.2
  have hI1 : qRI r n B := hI.1
  refine gM.of (by decide) rfl ?_
  intro p e s m args below meth c hC
  have hX := hC.1
  refine gx_aload_n hX 0 dX4_staleCount_0 rfl rfl ?_
  refine gx_callV (As := []) (st := []) hC (c_X4_derive l Y mo σ r n hM hr) kX4_derive wm_RX4_102 rfl (gM0 hM) rfl rfl rfl rfl rfl dX4_staleCount_1 rfl (gx_kv fun τ1 hq1 => ?_)
  have hrd : gRow Y mo τ1 r n := hr.eq hM hq1.1 (by decide)
  have hAd : gMA Y mo τ1 (r, n, P, q, cn) := hA.eq hM hq1.1 hq1.2.1 (by decide) (by decide) (by decide)
  obtain ⟨hq1e, hq1s, hD1, hD2, hD3, hD4, hD5, hD6⟩ := hq1
  have hqn := qm_le (qg r n)
  have hqn2 : qn (qg r n) = n := rfl
  refine gx_iconst (v := 0) hX dX4_staleCount_4 rfl (by decide) ?_
  refine gx_istore_n (lv' := [(1, .int 0), (0, .ref mo)]) hX dX4_staleCount_5 rfl (by decide) rfl ?_
  refine gx_iconst (v := 0) hX dX4_staleCount_6 rfl (by decide) ?_
  refine gx_istore_n (lv' := [(2, .int 0), (1, .int 0), (0, .ref mo)]) hX dX4_staleCount_7 rfl (by decide) rfl ?_
  have L8 : ∀ (k8 : Nat) (k : Nat), qm (qg r n) - k < k8 → (k ≤ qm (qg r n)) → gG p l e (gRm 7 152) s m args below meth c Y (gI fun z τ => (qstaleCount (r, n, P, q, cn)).1 = z ∧ gMA Y mo τ (qstaleCount (r, n, P, q, cn)).2) τ1 8 [(0, .ref mo), (1, .int (nI (qcnt (fun k => !(qF (qg r n) r (qo (qg r n) k))) k))), (2, .int (nI k))] [] := by
    intro k8
    induction k8 with
    | zero => intro k hk8; exact absurd hk8 (Nat.not_lt_zero _)
    | succ k8 ih8 =>
      intro k hk8 hk
      refine gx_iload_n hX 2 dX4_staleCount_8 rfl rfl ?_
      refine gx_aload_n hX 0 dX4_staleCount_9 rfl rfl ?_
      refine gx_get hC 8 inlX4 wf_RX4_70 rfl (gM0 hM) rfl rfl rfl rfl dX4_staleCount_10 rfl ?_
      refine gx_topi (b := (nI (qm (qg r n)))) hD4 ?_
      refine gx_nat_ge (i := k) (j := qm (qg r n)) (tgt := 44) hX dX4_staleCount_13 (by decide) rfl rfl rfl (by omega) (by omega) (fun h13 => ?_) (fun h13 => ?_)
      · refine gx_iload_n hX 1 dX4_staleCount_44 rfl rfl ?_
        exact gx_iret hC dX4_staleCount_45 (⟨by rw [show k = qm (qg r n) by omega]; rfl, hAd⟩)
      · refine gx_iload_n hX 1 dX4_staleCount_16 rfl rfl ?_
        refine gx_aload_n hX 0 dX4_staleCount_17 rfl rfl ?_
        refine gx_get hC 9 inlX4 wf_RX4_31 rfl (gM0 hM) rfl rfl rfl rfl dX4_staleCount_18 rfl ?_
        refine gx_aload_n hX 0 dX4_staleCount_21 rfl rfl ?_
        refine gx_get hC 7 inlX4 wf_RX4_28 rfl (gM0 hM) rfl rfl rfl rfl dX4_staleCount_22 rfl ?_
        refine gx_iload_n hX 2 dX4_staleCount_25 rfl rfl ?_
        refine gx_iald (i := k) hC (gM7 hM) rfl rfl (by omega) rfl dX4_staleCount_26 rfl ?_
        refine gx_topi (b := (nI (qo (qg r n) k))) (hD5 k h13) ?_
        have hok : qo (qg r n) k < n := qm_lt h13
        refine gx_zald (i := qo (qg r n) k) hC (gM9 hM) rfl rfl (by omega) rfl dX4_staleCount_27 rfl ?_
        refine gx_if_eq (tgt := 35) hX dX4_staleCount_28 (by decide) rfl (fun h28 => ?_) (fun h28 => ?_)
        · refine gx_iconst (v := 1) hX dX4_staleCount_35 rfl (by decide) ?_
          refine gx_iaddN (i := qcnt (fun k => !(qF (qg r n) r (qo (qg r n) k))) k) (j := 1) hX dX4_staleCount_36 rfl rfl rfl ?_
          refine gx_topi (b := (nI (qcnt (fun k => !(qF (qg r n) r (qo (qg r n) k))) (k + 1)))) (by rw [qcnt]; first | (simp only [qfr_f (hD6 _ hok) h28]; rfl) | (simp only [qfr_t (hD6 _ hok) h28]; rfl)) ?_
          refine gx_istore_n (lv' := [(1, .int (nI (qcnt (fun k => !(qF (qg r n) r (qo (qg r n) k))) (k + 1)))), (0, .ref mo), (2, .int (nI k))]) hX dX4_staleCount_37 rfl (by decide) rfl ?_
          refine gx_iinc (w := (nI (k + 1))) (lv' := [(2, .int (nI (k + 1))), (1, .int (nI (qcnt (fun k => !(qF (qg r n) r (qo (qg r n) k))) (k + 1)))), (0, .ref mo)]) hX 2 dX4_staleCount_38 rfl rfl (nI_add _ _) (by decide) rfl ?_
          refine gx_goto (pc' := 8) hX dX4_staleCount_41 (by decide) ?_
          exact gx_sub [2, 1, 0] rfl (ih8 (k + 1) (by omega) (by omega))
        · refine gx_iconst (v := 0) hX dX4_staleCount_31 rfl (by decide) ?_
          refine gx_goto (pc' := 36) hX dX4_staleCount_32 (by decide) ?_
          refine gx_iaddN (i := qcnt (fun k => !(qF (qg r n) r (qo (qg r n) k))) k) (j := 0) hX dX4_staleCount_36 rfl rfl rfl ?_
          refine gx_topi (b := (nI (qcnt (fun k => !(qF (qg r n) r (qo (qg r n) k))) (k + 1)))) (by rw [qcnt]; first | (simp only [qfr_f (hD6 _ hok) h28]; rfl) | (simp only [qfr_t (hD6 _ hok) h28]; rfl)) ?_
          refine gx_istore_n (lv' := [(1, .int (nI (qcnt (fun k => !(qF (qg r n) r (qo (qg r n) k))) (k + 1)))), (0, .ref mo), (2, .int (nI k))]) hX dX4_staleCount_37 rfl (by decide) rfl ?_
          refine gx_iinc (w := (nI (k + 1))) (lv' := [(2, .int (nI (k + 1))), (1, .int (nI (qcnt (fun k => !(qF (qg r n) r (qo (qg r n) k))) (k + 1)))), (0, .ref mo)]) hX 2 dX4_staleCount_38 rfl rfl (nI_add _ _) (by decide) rfl ?_
          refine gx_goto (pc' := 8) hX dX4_staleCount_41 (by decide) ?_
          exact gx_sub [2, 1, 0] rfl (ih8 (k + 1) (by omega) (by omega))
  exact gx_sub [2, 1, 0] rfl (L8 (qm (qg r n) + 1) 0 (by omega) (by omega))

set_option maxRecDepth 100000 in
set_option maxHeartbeats 4000000 in
theorem c_X4_errorCount (l : Launch) (Y : gL) (mo : Nat) (σ : gS) (r : Nat → Int32) (n : Nat) (P : Nat → Nat → Int32) (q : Nat) (cn : Nat → Int32) (hM : gLM Y mo) (hA : gMA Y mo σ (r, n, P, q, cn)) (B : Nat) (hB : B + 12 < 2 ^ 30) (hI : qAI (r, n, P, q, cn) B) (x : Int32) : gM l yX4_errorCount cX4_errorCount 2 (some .int) (gRm 1 22) Y [.ref mo, .int x] σ (gI fun z τ => (qerrorCount (r, n, P, q, cn) x).1 = z ∧ gMA Y mo τ (qerrorCount (r, n, P, q, cn) x).2) := by
  have hr : gRow Y mo σ r n := hA.1
  have hr2 := hr.2.1
  have hr3 := hr.2.2
  have hI1 : qRI r n B := hI.1
  refine gM.of (by decide) rfl ?_
  intro p e s m args below meth c hC
  have hX := hC.1
  refine gx_iload_n hX 1 dX4_errorCount_0 rfl rfl ?_
  refine gx_iconst (v := 0) hX dX4_errorCount_1 rfl (by decide) ?_
  refine gx_iconst (v := 2) hX dX4_errorCount_2 rfl (by decide) ?_
  refine gx_callS (As := [.int x, .int 0, .int 2]) (st := []) hC (c_X4_in l Y σ x 0 2) kX4_in wm_RX4_42 rfl rfl rfl rfl dX4_errorCount_3 rfl (gx_ki fun r3 τ3 hq3 => ?_)
  obtain ⟨rfl, ⟨rfl, hb3⟩ | ⟨rfl, hb3⟩⟩ := hq3
  · obtain ⟨j, hj, rfl⟩ := qn10 (m := 2) rfl (by omega) hb3
    refine gx_if_eq_f (tgt := 18) hX dX4_errorCount_6 (by decide) rfl (by decide) ?_
    refine gx_aload_n hX 0 dX4_errorCount_9 rfl rfl ?_
    refine gx_get hC 3 inlX4 wf_RX4_16 rfl (gM0 hM) rfl rfl rfl rfl dX4_errorCount_10 rfl ?_
    refine gx_iload_n hX 1 dX4_errorCount_13 rfl rfl ?_
    refine gx_iald (i := j) hC (gM3 hM) rfl rfl (by omega) rfl dX4_errorCount_14 rfl ?_
    refine gx_topi (b := (cn j)) (by rw [hA.2.2]) ?_
    refine gx_goto (pc' := 25) hX dX4_errorCount_15 (by decide) ?_
    refine gx_iret hC dX4_errorCount_25 ?_
    have hz : qerrorCount (r, n, P, q, cn) (nI j) = (cn (nI j).toNatClampNeg, (r, n, P, q, cn)) := if_pos hb3
    rw [hz]
    exact ⟨by rw [nI_clamp (by omega)], hA⟩
  · refine gx_if_eq_t (tgt := 18) hX dX4_errorCount_6 (by decide) (by decide) ?_
    refine gx_aload_n hX 0 dX4_errorCount_18 rfl rfl ?_
    refine gx_sipush (v := (-10002)) hX dX4_errorCount_19 rfl (by decide) ?_
    refine gx_callV (As := [.int (-10002)]) (st := []) hC (c_X4_error l Y mo σ 0 (-10002) hM (by decide) (by decide)) kX4_error wm_RX4_118 rfl (gM0 hM) rfl rfl rfl rfl rfl dX4_errorCount_22 rfl (gx_ki fun r22 τ22 hq22 => ?_)
    obtain ⟨rfl, rfl⟩ := hq22
    refine gx_iret hC dX4_errorCount_25 ?_
    have hz : qerrorCount (r, n, P, q, cn) x = (-10002, qfail (r, n, P, q, cn) 0) := if_neg hb3
    rw [hz]
    exact ⟨rfl, hA.fail hM⟩

set_option maxRecDepth 100000 in
set_option maxHeartbeats 4000000 in
theorem c_X4_undo (l : Launch) (Y : gL) (mo : Nat) (σ : gS) (r : Nat → Int32) (n : Nat) (P : Nat → Nat → Int32) (q : Nat) (cn : Nat → Int32) (hM : gLM Y mo) (hA : gMA Y mo σ (r, n, P, q, cn)) (B : Nat) (hB : B + 12 < 2 ^ 30) (hI : qAI (r, n, P, q, cn) B) : gM l yX4_undo cX4_undo 2 (some .int) (gRm 1 21) Y [.ref mo] σ (gI fun z τ => (qundo (r, n, P, q, cn)).1 = z ∧ gMA Y mo τ (qundo (r, n, P, q, cn)).2) := by
  have hr : gRow Y mo σ r n := hA.1
  have hr2 := hr.2.1
  have hr3 := hr.2.2
  have hI1 : qRI r n B := hI.1
  have hq2 : q ≤ 4 := hA.2.1.1
  have hq3 : σ.1 mo 2 = nI q := hA.2.1.2.1
  have hq4 : ∀ j i, j < q → i < 137 → σ.1 (gF Y mo 1) (137 * j + i) = P j i := hA.2.1.2.2
  refine gM.of (by decide) rfl ?_
  intro p e s m args below meth c hC
  have hX := hC.1
  refine gx_aload_n hX 0 dX4_undo_0 rfl rfl ?_
  refine gx_get hC 2 inlX4 wf_RX4_46 rfl (gM0 hM) rfl rfl rfl rfl dX4_undo_1 rfl ?_
  refine gx_topi (b := (nI q)) hq3 ?_
  refine gx_if_ne (tgt := 15) hX dX4_undo_4 (by decide) rfl (fun h4 => ?_) (fun h4 => ?_)
  · have hq0 : q ≠ 0 := fun z => h4 (by rw [z]; rfl)
    refine gx_aload_n hX 0 dX4_undo_15 rfl rfl ?_
    refine gx_dup hX dX4_undo_16 rfl rfl ?_
    refine gx_get hC 2 inlX4 wf_RX4_46 rfl (gM0 hM) rfl rfl rfl rfl dX4_undo_17 rfl ?_
    refine gx_topi (b := (nI q)) hq3 ?_
    refine gx_iconst (v := 1) hX dX4_undo_20 rfl (by decide) ?_
    refine gx_isubN (i := q) (j := 1) hX dX4_undo_21 rfl rfl rfl (by omega) ?_
    refine gx_put (τ := uI σ mo 2 (nI (q - 1))) hC 2 inlX4 tyX4_ok nmX4 wf_RX4_46 rfl (gM0 hM) rfl rfl (by simp [gE, uI]) (fun b hb => gEnt_I hb) rfl rfl rfl rfl rfl rfl rfl dX4_undo_22 rfl ?_
    refine gx_iconst (v := 0) hX dX4_undo_25 rfl (by decide) ?_
    refine gx_istore_n (lv' := [(1, .int 0), (0, .ref mo)]) hX dX4_undo_26 rfl (by decide) rfl ?_
    have L27 : ∀ (k27 : Nat) (k : Nat) (τ : gS), 137 - k < k27 → (k ≤ 137) → (gEq Y [16] (uI σ mo 2 (nI (q - 1))) τ) → (τ.1 (gF Y mo 0) = (qbk r (P (q - 1)) k)) → gG p l e (gRm 1 21) s m args below meth c Y (gI fun z τ => (qundo (r, n, P, q, cn)).1 = z ∧ gMA Y mo τ (qundo (r, n, P, q, cn)).2) τ 27 [(0, .ref mo), (1, .int (nI k))] [] := by
      intro k27
      induction k27 with
      | zero => intro k τ hk27; exact absurd hk27 (Nat.not_lt_zero _)
      | succ k27 ih27 =>
        intro k τ hk27 hk he hrt
        refine gx_iload_n hX 1 dX4_undo_27 rfl rfl ?_
        refine gx_sipush (v := 137) hX dX4_undo_28 rfl (by decide) ?_
        refine gx_nat_ge (i := k) (j := 137) (tgt := 61) hX dX4_undo_31 (by decide) rfl rfl rfl (by omega) (by omega) (fun h31 => ?_) (fun h31 => ?_)
        · refine gx_aload_n hX 0 dX4_undo_61 rfl rfl ?_
          refine gx_get hC 2 inlX4 wf_RX4_46 rfl (gM0 hM) rfl rfl rfl rfl dX4_undo_62 rfl ?_
          refine gx_topi (b := (nI (q - 1))) (by rw [he.at (gM0 hM) (by decide)]; exact uI_at) ?_
          refine gx_iret hC dX4_undo_65 ?_
          have hz : qundo (r, n, P, q, cn) = (nI (q - 1), (qback (r, n, P, q, cn), (qback (r, n, P, q, cn) 0).toNatClampNeg, P, q - 1, cn)) := if_neg hq0
          have hb := qback_I hI hq0
          rw [hz]
          refine ⟨rfl, ⟨?_, hb.1, hb.2.1⟩, ⟨show q - 1 ≤ 4 by omega, by rw [he.at (gM0 hM) (by decide)]; exact uI_at, fun j i hj hi => ?_⟩, ?_⟩
          · rw [hrt, show k = 137 by omega]; rfl
          · rw [he.at (gM2 hM) (by decide), uI_ne (gK_ne (gM2 hM) (gM0 hM) (by decide))]; exact hq4 j i (by have h9 : j < q - 1 := hj; omega) hi
          · rw [he.at (gM3 hM) (by decide), uI_ne (gK_ne (gM3 hM) (gM0 hM) (by decide))]; exact hA.2.2
        · refine gx_aload_n hX 0 dX4_undo_34 rfl rfl ?_
          refine gx_get hC 0 inlX4 wf_RX4_7 rfl (gM0 hM) rfl rfl rfl rfl dX4_undo_35 rfl ?_
          refine gx_iload_n hX 1 dX4_undo_38 rfl rfl ?_
          refine gx_aload_n hX 0 dX4_undo_39 rfl rfl ?_
          refine gx_get hC 1 inlX4 wf_RX4_13 rfl (gM0 hM) rfl rfl rfl rfl dX4_undo_40 rfl ?_
          refine gx_sipush (v := 137) hX dX4_undo_43 rfl (by decide) ?_
          refine gx_aload_n hX 0 dX4_undo_46 rfl rfl ?_
          refine gx_get hC 2 inlX4 wf_RX4_46 rfl (gM0 hM) rfl rfl rfl rfl dX4_undo_47 rfl ?_
          refine gx_topi (b := (nI (q - 1))) (by rw [he.at (gM0 hM) (by decide)]; exact uI_at) ?_
          refine gx_imulN (i := 137) (j := q - 1) hX dX4_undo_50 rfl rfl rfl ?_
          refine gx_iload_n hX 1 dX4_undo_51 rfl rfl ?_
          refine gx_iaddN (i := 137 * (q - 1)) (j := k) hX dX4_undo_52 rfl rfl rfl ?_
          refine gx_iald (i := (137 * (q - 1)) + k) hC (gM2 hM) rfl rfl (by omega) rfl dX4_undo_53 rfl ?_
          refine gx_topi (b := (P (q - 1) k)) (by rw [he.at (gM2 hM) (by decide), uI_ne (gK_ne (gM2 hM) (gM0 hM) (by decide))]; exact hq4 (q - 1) k (by omega) (by omega)) ?_
          refine gx_iast (i := k) hC (gM1 hM) rfl rfl rfl rfl (by omega) rfl dX4_undo_54 rfl ?_
          refine gx_iinc (w := (nI (k + 1))) (lv' := [(1, .int (nI (k + 1))), (0, .ref mo)]) hX 1 dX4_undo_55 rfl rfl (nI_add _ _) (by decide) rfl ?_
          refine gx_goto (pc' := 27) hX dX4_undo_58 (by decide) ?_
          exact gx_sub [1, 0] rfl (ih27 (k + 1) _ (by omega) (by omega) (he.put (gM1 hM) (by decide)) (by rw [← qbk_s]; exact uI_now hrt))
    exact gx_sub [1, 0] rfl (L27 138 0 _ (by omega) (by omega) gEq.rf (by rw [qbk_0, uI_ne (gK_ne (gM1 hM) (gM0 hM) (by decide))]; exact hr.1))
  · have hq0 : q = 0 := (nI_bmod (by omega)).mp h4
    refine gx_aload_n hX 0 dX4_undo_7 rfl rfl ?_
    refine gx_sipush (v := (-10003)) hX dX4_undo_8 rfl (by decide) ?_
    refine gx_callV (As := [.int (-10003)]) (st := []) hC (c_X4_error l Y mo σ 1 (-10003) hM (by decide) (by decide)) kX4_error wm_RX4_118 rfl (gM0 hM) rfl rfl rfl rfl rfl dX4_undo_11 rfl (gx_ki fun r11 τ11 hq11 => ?_)
    obtain ⟨rfl, rfl⟩ := hq11
    refine gx_iret hC dX4_undo_14 ?_
    have hz : qundo (r, n, P, q, cn) = (-10003, qfail (r, n, P, q, cn) 1) := if_pos hq0
    rw [hz]
    exact ⟨rfl, hA.fail hM⟩

set_option maxRecDepth 100000 in
set_option maxHeartbeats 4000000 in
theorem c_X4_mix (l : Launch) (Y : gL) (mo : Nat) (σ : gS) (h v : Int64) (hM : gLM Y mo) : gM l yX4_mix cX4_mix 3 none (gRm 0 0) Y [.ref mo, .long v] (uJ σ mo h) (gV fun τ => uJ σ mo (31 * h + v) = τ) := by
  refine gM.of (by decide) rfl ?_
  intro p e s m args below meth c hC
  have hX := hC.1
  refine gx_aload_n hX 0 dX4_mix_0 rfl rfl ?_
  refine gx_ldc2 hC wk_RX4_148 dX4_mix_1 rfl ?_
  refine gx_aload_n hX 0 dX4_mix_4 rfl rfl ?_
  refine gx_get hC 11 inlX4 wf_RX4_150 rfl (gM0 hM) rfl rfl rfl rfl dX4_mix_5 rfl ?_
  refine gx_lmul hX dX4_mix_8 rfl ?_
  refine gx_lload_n hX 1 dX4_mix_9 rfl rfl ?_
  refine gx_ladd hX dX4_mix_10 rfl ?_
  refine gx_put (τ := uJ (uJ σ mo h) mo ((31 * ((uJ σ mo h).2.2 mo)) + v)) hC 11 inlX4 tyX4_ok nmX4 wf_RX4_150 rfl (gM0 hM) rfl rfl (by simp [gE, uJ]) (fun b hb => gEnt_J hb) rfl rfl rfl rfl rfl rfl rfl dX4_mix_11 rfl ?_
  exact gx_vret hC dX4_mix_14 (by rw [uJ_uJ, uJ_at])

set_option maxRecDepth 100000 in
set_option maxHeartbeats 4000000 in
theorem c_X4_mixCell (l : Launch) (Y : gL) (mo : Nat) (σ : gS) (r : Nat → Int32) (n : Nat) (hM : gLM Y mo) (hr : gRow Y mo σ r n) (hd : gDer Y mo σ (qg r n) r) (h : Int64) (i : Nat) (hi : i < n) : gM l yX4_mixCell cX4_mixCell 3 none (gRm 4 85) Y [.ref mo, .int (nI i)] (uJ σ mo h) (gV fun τ => uJ σ mo (qhc (qg r n) r i h) = τ) := by
  have hr1 := hr.1
  have hr2 := hr.2.1
  have hr3 := hr.2.2
  obtain ⟨hD1, hD2, hD3, hD4, hD5, hD6⟩ := hd
  refine gM.of (by decide) rfl ?_
  intro p e s m args below meth c hC
  have hX := hC.1
  refine gx_iconst (v := 0) hX dX4_mixCell_0 rfl (by decide) ?_
  refine gx_istore_n (lv' := [(2, .int 0), (0, .ref mo), (1, .int (nI i))]) hX dX4_mixCell_1 rfl (by decide) rfl ?_
  have L2 : ∀ (k2 : Nat) (k : Nat), 4 - k < k2 → (k ≤ 4) → gG p l e (gRm 4 85) s m args below meth c Y (gV fun τ => uJ σ mo (qhc (qg r n) r i h) = τ) (uJ σ mo (qhs (fun w => r (17 + 10 * i + w)) k h)) 2 [(0, .ref mo), (1, .int (nI i)), (2, .int (nI k))] [] := by
    intro k2
    induction k2 with
    | zero => intro k hk2; exact absurd hk2 (Nat.not_lt_zero _)
    | succ k2 ih2 =>
      intro k hk2 hk
      refine gx_iload_n hX 2 dX4_mixCell_2 rfl rfl ?_
      refine gx_iconst (v := 3) hX dX4_mixCell_3 rfl (by decide) ?_
      refine gx_nat_gt (i := k) (j := 3) (tgt := 24) hX dX4_mixCell_4 (by decide) rfl rfl rfl (by omega) (by omega) (fun h4 => ?_) (fun h4 => ?_)
      · refine gx_aload_n hX 0 dX4_mixCell_24 rfl rfl ?_
        refine gx_aload_n hX 0 dX4_mixCell_25 rfl rfl ?_
        refine gx_iload_n hX 1 dX4_mixCell_26 rfl rfl ?_
        refine gx_callV (As := [.int (nI i)]) (st := [.ref mo]) hC (c_X4_statusOf l Y mo (uJ σ mo (qhs (fun w => r (17 + 10 * i + w)) k h)) r n hM hr hD3 hD6 i (by omega)) kX4_statusOf wm_RX4_139 rfl (gM0 hM) rfl rfl rfl rfl rfl dX4_mixCell_27 rfl (gx_ki fun r27 τ27 hq27 => ?_)
        obtain ⟨rfl, rfl⟩ := hq27
        refine gx_i2l hX dX4_mixCell_30 rfl ?_
        refine gx_callV (As := [.long (((qsta (qg r n) r i) : Int32).toInt64)]) (st := []) hC (c_X4_mix l Y mo σ (qhs (fun w => r (17 + 10 * i + w)) k h) (((qsta (qg r n) r i) : Int32).toInt64) hM) kX4_mix wm_RX4_154 rfl (gM0 hM) rfl rfl rfl rfl rfl dX4_mixCell_31 rfl (gx_kv fun τ31 hq31 => ?_)
        obtain rfl := hq31
        refine gx_store rfl ?_
        refine gx_aload_n hX 0 dX4_mixCell_34 rfl rfl ?_
        refine gx_aload_n hX 0 dX4_mixCell_35 rfl rfl ?_
        refine gx_iload_n hX 1 dX4_mixCell_36 rfl rfl ?_
        refine gx_callV (As := [.int (nI i)]) (st := [.ref mo]) hC (c_X4_valueAt l Y mo (uJ σ mo (qmix (qhs (fun w => r (17 + 10 * i + w)) k h) (qsta (qg r n) r i))) r n hM hr hD3 hD6 i (by omega)) kX4_valueAt wm_RX4_142 rfl (gM0 hM) rfl rfl rfl rfl rfl dX4_mixCell_37 rfl (gx_ki fun r37 τ37 hq37 => ?_)
        obtain ⟨rfl, rfl⟩ := hq37
        refine gx_i2l hX dX4_mixCell_40 rfl ?_
        refine gx_callV (As := [.long (((qval (qg r n) r i) : Int32).toInt64)]) (st := []) hC (c_X4_mix l Y mo σ (qmix (qhs (fun w => r (17 + 10 * i + w)) k h) (qsta (qg r n) r i)) (((qval (qg r n) r i) : Int32).toInt64) hM) kX4_mix wm_RX4_154 rfl (gM0 hM) rfl rfl rfl rfl rfl dX4_mixCell_41 rfl (gx_kv fun τ41 hq41 => ?_)
        obtain rfl := hq41
        refine gx_store rfl ?_
        refine gx_aload_n hX 0 dX4_mixCell_44 rfl rfl ?_
        refine gx_aload_n hX 0 dX4_mixCell_45 rfl rfl ?_
        refine gx_iload_n hX 1 dX4_mixCell_46 rfl rfl ?_
        refine gx_iconst (v := 5) hX dX4_mixCell_47 rfl (by decide) ?_
        refine gx_callV (As := [.int (nI i), .int 5]) (st := [.ref mo]) hC (c_X4_get l Y mo (uJ σ mo (qmix (qmix (qhs (fun w => r (17 + 10 * i + w)) k h) (qsta (qg r n) r i)) (qval (qg r n) r i))) r i 5 hM hr.1 (by omega)) kX4_get wm_RX4_50 rfl (gM0 hM) rfl rfl rfl rfl rfl dX4_mixCell_48 rfl (gx_ki fun r48 τ48 hq48 => ?_)
        obtain ⟨rfl, rfl⟩ := hq48
        refine gx_i2l hX dX4_mixCell_51 rfl ?_
        refine gx_callV (As := [.long (((r (17 + 10 * i + 5)) : Int32).toInt64)]) (st := []) hC (c_X4_mix l Y mo σ (qmix (qmix (qhs (fun w => r (17 + 10 * i + w)) k h) (qsta (qg r n) r i)) (qval (qg r n) r i)) (((r (17 + 10 * i + 5)) : Int32).toInt64) hM) kX4_mix wm_RX4_154 rfl (gM0 hM) rfl rfl rfl rfl rfl dX4_mixCell_52 rfl (gx_kv fun τ52 hq52 => ?_)
        obtain rfl := hq52
        refine gx_store rfl ?_
        refine gx_aload_n hX 0 dX4_mixCell_55 rfl rfl ?_
        refine gx_aload_n hX 0 dX4_mixCell_56 rfl rfl ?_
        refine gx_iload_n hX 1 dX4_mixCell_57 rfl rfl ?_
        refine gx_bipush (v := 8) hX dX4_mixCell_58 rfl (by decide) ?_
        refine gx_callV (As := [.int (nI i), .int 8]) (st := [.ref mo]) hC (c_X4_get l Y mo (uJ σ mo (qmix (qmix (qmix (qhs (fun w => r (17 + 10 * i + w)) k h) (qsta (qg r n) r i)) (qval (qg r n) r i)) (r (17 + 10 * i + 5)))) r i 8 hM hr.1 (by omega)) kX4_get wm_RX4_50 rfl (gM0 hM) rfl rfl rfl rfl rfl dX4_mixCell_60 rfl (gx_ki fun r60 τ60 hq60 => ?_)
        obtain ⟨rfl, rfl⟩ := hq60
        refine gx_i2l hX dX4_mixCell_63 rfl ?_
        refine gx_callV (As := [.long (((r (17 + 10 * i + 8)) : Int32).toInt64)]) (st := []) hC (c_X4_mix l Y mo σ (qmix (qmix (qmix (qhs (fun w => r (17 + 10 * i + w)) k h) (qsta (qg r n) r i)) (qval (qg r n) r i)) (r (17 + 10 * i + 5))) (((r (17 + 10 * i + 8)) : Int32).toInt64) hM) kX4_mix wm_RX4_154 rfl (gM0 hM) rfl rfl rfl rfl rfl dX4_mixCell_64 rfl (gx_kv fun τ64 hq64 => ?_)
        obtain rfl := hq64
        refine gx_store rfl ?_
        refine gx_aload_n hX 0 dX4_mixCell_67 rfl rfl ?_
        refine gx_aload_n hX 0 dX4_mixCell_68 rfl rfl ?_
        refine gx_get hC 4 inlX4 wf_RX4_19 rfl (gM0 hM) rfl rfl rfl rfl dX4_mixCell_69 rfl ?_
        refine gx_iload_n hX 1 dX4_mixCell_72 rfl rfl ?_
        refine gx_iald (i := i) hC (gM4 hM) rfl rfl (by omega) rfl dX4_mixCell_73 rfl ?_
        refine gx_topi (b := (qdir (qg r n) i)) (hD1 i hi) ?_
        refine gx_i2l hX dX4_mixCell_74 rfl ?_
        refine gx_callV (As := [.long (((qdir (qg r n) i) : Int32).toInt64)]) (st := []) hC (c_X4_mix l Y mo σ (qmix (qmix (qmix (qmix (qhs (fun w => r (17 + 10 * i + w)) k h) (qsta (qg r n) r i)) (qval (qg r n) r i)) (r (17 + 10 * i + 5))) (r (17 + 10 * i + 8))) (((qdir (qg r n) i) : Int32).toInt64) hM) kX4_mix wm_RX4_154 rfl (gM0 hM) rfl rfl rfl rfl rfl dX4_mixCell_75 rfl (gx_kv fun τ75 hq75 => ?_)
        obtain rfl := hq75
        refine gx_store rfl ?_
        refine gx_aload_n hX 0 dX4_mixCell_78 rfl rfl ?_
        refine gx_aload_n hX 0 dX4_mixCell_79 rfl rfl ?_
        refine gx_iload_n hX 1 dX4_mixCell_80 rfl rfl ?_
        refine gx_callV (As := [.int (nI i)]) (st := [.ref mo]) hC (c_X4_dependentsOf l Y mo (uJ σ mo (qmix (qmix (qmix (qmix (qmix (qhs (fun w => r (17 + 10 * i + w)) k h) (qsta (qg r n) r i)) (qval (qg r n) r i)) (r (17 + 10 * i + 5))) (r (17 + 10 * i + 8))) (qdir (qg r n) i))) r n hM hr hD2 i (by omega)) kX4_dependentsOf wm_RX4_145 rfl (gM0 hM) rfl rfl rfl rfl rfl dX4_mixCell_81 rfl (gx_ki fun r81 τ81 hq81 => ?_)
        obtain ⟨rfl, rfl⟩ := hq81
        refine gx_i2l hX dX4_mixCell_84 rfl ?_
        refine gx_callV (As := [.long (((qdpt (qg r n) i n) : Int32).toInt64)]) (st := []) hC (c_X4_mix l Y mo σ (qmix (qmix (qmix (qmix (qmix (qhs (fun w => r (17 + 10 * i + w)) k h) (qsta (qg r n) r i)) (qval (qg r n) r i)) (r (17 + 10 * i + 5))) (r (17 + 10 * i + 8))) (qdir (qg r n) i)) (((qdpt (qg r n) i n) : Int32).toInt64) hM) kX4_mix wm_RX4_154 rfl (gM0 hM) rfl rfl rfl rfl rfl dX4_mixCell_85 rfl (gx_kv fun τ85 hq85 => ?_)
        obtain rfl := hq85
        refine gx_store rfl ?_
        exact gx_vret hC dX4_mixCell_88 (by rw [show k = 4 by omega]; rfl)
      · refine gx_aload_n hX 0 dX4_mixCell_7 rfl rfl ?_
        refine gx_aload_n hX 0 dX4_mixCell_8 rfl rfl ?_
        refine gx_iload_n hX 1 dX4_mixCell_9 rfl rfl ?_
        refine gx_iload_n hX 2 dX4_mixCell_10 rfl rfl ?_
        refine gx_callV (As := [.int (nI i), .int (nI k)]) (st := [.ref mo]) hC (c_X4_get l Y mo (uJ σ mo (qhs (fun w => r (17 + 10 * i + w)) k h)) r i k hM hr.1 (by omega)) kX4_get wm_RX4_50 rfl (gM0 hM) rfl rfl rfl rfl rfl dX4_mixCell_11 rfl (gx_ki fun r11 τ11 hq11 => ?_)
        obtain ⟨rfl, rfl⟩ := hq11
        refine gx_i2l hX dX4_mixCell_14 rfl ?_
        refine gx_callV (As := [.long (((r (17 + 10 * i + k)) : Int32).toInt64)]) (st := []) hC (c_X4_mix l Y mo σ (qhs (fun w => r (17 + 10 * i + w)) k h) (((r (17 + 10 * i + k)) : Int32).toInt64) hM) kX4_mix wm_RX4_154 rfl (gM0 hM) rfl rfl rfl rfl rfl dX4_mixCell_15 rfl (gx_kv fun τ15 hq15 => ?_)
        obtain rfl := hq15
        refine gx_store rfl ?_
        refine gx_iinc (w := (nI (k + 1))) (lv' := [(2, .int (nI (k + 1))), (0, .ref mo), (1, .int (nI i))]) hX 2 dX4_mixCell_18 rfl rfl (nI_add _ _) (by decide) rfl ?_
        refine gx_goto (pc' := 2) hX dX4_mixCell_21 (by decide) ?_
        exact gx_sub [1, 2, 0] rfl (ih2 (k + 1) (by omega) (by omega))
  exact gx_sub [1, 2, 0] rfl (L2 5 0 (by omega) (by omega))

set_option maxRecDepth 100000 in
set_option maxHeartbeats 4000000 in
theorem c_X4_digest (l : Launch) (Y : gL) (mo : Nat) (σ : gS) (r : Nat → Int32) (n : Nat) (P : Nat → Nat → Int32) (q : Nat) (cn : Nat → Int32) (hM : gLM Y mo) (hA : gMA Y mo σ (r, n, P, q, cn)) (B : Nat) (hB : B + 12 < 2 ^ 30) (hI : qAI (r, n, P, q, cn) B) : gM l yX4_digest cX4_digest 2 (some .long) (gRm 7 152) Y [.ref mo] σ (gJ fun z τ => qdigest (r, n, P, q, cn) = z ∧ gMA Y mo τ (r, n, P, q, cn)) := by
  have hr : gRow Y mo σ r n := hA.1
  have hr2 := hr.2.1
  have hr3 := hr.2.2
  have hI1 : qRI r n B := hI.1
  obtain ⟨k4, hk4, he4⟩ := hI1.2.2.2.2.1
  refine gM.of (by decide) rfl ?_
  intro p e s m args below meth c hC
  have hX := hC.1
  refine gx_aload_n hX 0 dX4_digest_0 rfl rfl ?_
  refine gx_callV (As := []) (st := []) hC (c_X4_derive l Y mo σ r n hM hr) kX4_derive wm_RX4_102 rfl (gM0 hM) rfl rfl rfl rfl rfl dX4_digest_1 rfl (gx_kv fun τ1 hq1 => ?_)
  have hD := hq1.2.2
  have hrd : gRow Y mo τ1 r n := hr.eq hM hq1.1 (by decide)
  have hAd : gMA Y mo τ1 (r, n, P, q, cn) := hA.eq hM hq1.1 hq1.2.1 (by decide) (by decide) (by decide)
  obtain ⟨hq1e, hq1s, hD1, hD2, hD3, hD4, hD5, hD6⟩ := hq1
  have hqn := qm_le (qg r n)
  have hqn2 : qn (qg r n) = n := rfl
  refine gx_aload_n hX 0 dX4_digest_4 rfl rfl ?_
  refine gx_ldc2 hC wk_RX4_158 dX4_digest_5 rfl ?_
  refine gx_put (τ := uJ τ1 mo 11872) hC 11 inlX4 tyX4_ok nmX4 wf_RX4_150 rfl (gM0 hM) rfl rfl (by simp [gE, uJ]) (fun b hb => gEnt_J hb) rfl rfl rfl rfl rfl rfl rfl dX4_digest_8 rfl ?_
  refine gx_iconst (v := 0) hX dX4_digest_11 rfl (by decide) ?_
  refine gx_istore_n (lv' := [(1, .int 0), (0, .ref mo)]) hX dX4_digest_12 rfl (by decide) rfl ?_
  have L13 : ∀ (k13 : Nat) (k : Nat), 3 - k < k13 → (k ≤ 3) → gG p l e (gRm 7 152) s m args below meth c Y (gJ fun z τ => qdigest (r, n, P, q, cn) = z ∧ gMA Y mo τ (r, n, P, q, cn)) (uJ τ1 mo (qhs cn k 11872)) 13 [(0, .ref mo), (1, .int (nI k))] [] := by
    intro k13
    induction k13 with
    | zero => intro k hk13; exact absurd hk13 (Nat.not_lt_zero _)
    | succ k13 ih13 =>
      intro k hk13 hk
      refine gx_iload_n hX 1 dX4_digest_13 rfl rfl ?_
      refine gx_iconst (v := 3) hX dX4_digest_14 rfl (by decide) ?_
      refine gx_nat_ge (i := k) (j := 3) (tgt := 35) hX dX4_digest_15 (by decide) rfl rfl rfl (by omega) (by omega) (fun h15 => ?_) (fun h15 => ?_)
      · have hke : k = 3 := by omega
        subst hke
        refine gx_aload_n hX 0 dX4_digest_35 rfl rfl ?_
        refine gx_aload_n hX 0 dX4_digest_36 rfl rfl ?_
        refine gx_get hC 2 inlX4 wf_RX4_46 rfl (gM0 hM) rfl rfl rfl rfl dX4_digest_37 rfl ?_
        refine gx_topi (b := (nI q)) hAd.2.1.2.1 ?_
        refine gx_i2l hX dX4_digest_40 rfl ?_
        refine gx_callV (As := [.long (((nI q) : Int32).toInt64)]) (st := []) hC (c_X4_mix l Y mo τ1 (qhs cn 3 11872) (((nI q) : Int32).toInt64) hM) kX4_mix wm_RX4_154 rfl (gM0 hM) rfl rfl rfl rfl rfl dX4_digest_41 rfl (gx_kv fun τ41 hq41 => ?_)
        obtain rfl := hq41
        refine gx_store rfl ?_
        refine gx_aload_n hX 0 dX4_digest_44 rfl rfl ?_
        refine gx_aload_n hX 0 dX4_digest_45 rfl rfl ?_
        refine gx_get hC 0 inlX4 wf_RX4_7 rfl (gM0 hM) rfl rfl rfl rfl dX4_digest_46 rfl ?_
        refine gx_iconst (v := 1) hX dX4_digest_49 rfl (by decide) ?_
        refine gx_iald (i := 1) hC (gM1 hM) rfl rfl (by omega) rfl dX4_digest_50 rfl ?_
        refine gx_topi (b := (r 1)) (congrFun hrd.1 1) ?_
        refine gx_i2l hX dX4_digest_51 rfl ?_
        refine gx_callV (As := [.long (((r 1) : Int32).toInt64)]) (st := []) hC (c_X4_mix l Y mo τ1 (qmix (qhs cn 3 11872) (nI q)) (((r 1) : Int32).toInt64) hM) kX4_mix wm_RX4_154 rfl (gM0 hM) rfl rfl rfl rfl rfl dX4_digest_52 rfl (gx_kv fun τ52 hq52 => ?_)
        obtain rfl := hq52
        refine gx_store rfl ?_
        refine gx_aload_n hX 0 dX4_digest_55 rfl rfl ?_
        refine gx_aload_n hX 0 dX4_digest_56 rfl rfl ?_
        refine gx_get hC 0 inlX4 wf_RX4_7 rfl (gM0 hM) rfl rfl rfl rfl dX4_digest_57 rfl ?_
        refine gx_iconst (v := 3) hX dX4_digest_60 rfl (by decide) ?_
        refine gx_iald (i := 3) hC (gM1 hM) rfl rfl (by omega) rfl dX4_digest_61 rfl ?_
        refine gx_topi (b := (r 3)) (congrFun hrd.1 3) ?_
        refine gx_i2l hX dX4_digest_62 rfl ?_
        refine gx_callV (As := [.long (((r 3) : Int32).toInt64)]) (st := []) hC (c_X4_mix l Y mo τ1 (qmix (qmix (qhs cn 3 11872) (nI q)) (r 1)) (((r 3) : Int32).toInt64) hM) kX4_mix wm_RX4_154 rfl (gM0 hM) rfl rfl rfl rfl rfl dX4_digest_63 rfl (gx_kv fun τ63 hq63 => ?_)
        obtain rfl := hq63
        refine gx_store rfl ?_
        refine gx_aload_n hX 0 dX4_digest_66 rfl rfl ?_
        refine gx_aload_n hX 0 dX4_digest_67 rfl rfl ?_
        refine gx_get hC 0 inlX4 wf_RX4_7 rfl (gM0 hM) rfl rfl rfl rfl dX4_digest_68 rfl ?_
        refine gx_iconst (v := 4) hX dX4_digest_71 rfl (by decide) ?_
        refine gx_iald (i := 4) hC (gM1 hM) rfl rfl (by omega) rfl dX4_digest_72 rfl ?_
        refine gx_topi (b := (r 4)) (congrFun hrd.1 4) ?_
        refine gx_i2l hX dX4_digest_73 rfl ?_
        refine gx_callV (As := [.long (((r 4) : Int32).toInt64)]) (st := []) hC (c_X4_mix l Y mo τ1 (qmix (qmix (qmix (qhs cn 3 11872) (nI q)) (r 1)) (r 3)) (((r 4) : Int32).toInt64) hM) kX4_mix wm_RX4_154 rfl (gM0 hM) rfl rfl rfl rfl rfl dX4_digest_74 rfl (gx_kv fun τ74 hq74 => ?_)
        obtain rfl := hq74
        refine gx_store rfl ?_
        refine gx_iconst (v := 0) hX dX4_digest_77 rfl (by decide) ?_
        refine gx_istore_n (lv' := [(1, .int 0), (0, .ref mo)]) hX dX4_digest_78 rfl (by decide) rfl ?_
        have L79 : ∀ (k79 : Nat) (k : Nat), k4 - k < k79 → (k ≤ k4) → gG p l e (gRm 7 152) s m args below meth c Y (gJ fun z τ => qdigest (r, n, P, q, cn) = z ∧ gMA Y mo τ (r, n, P, q, cn)) (uJ τ1 mo (qhs (fun k => r (5 + k)) k (qmix (qmix (qmix (qmix (qhs cn 3 11872) (nI q)) (r 1)) (r 3)) (r 4)))) 79 [(0, .ref mo), (1, .int (nI k))] [] := by
          intro k79
          induction k79 with
          | zero => intro k hk79; exact absurd hk79 (Nat.not_lt_zero _)
          | succ k79 ih79 =>
            intro k hk79 hk
            refine gx_iload_n hX 1 dX4_digest_79 rfl rfl ?_
            refine gx_aload_n hX 0 dX4_digest_80 rfl rfl ?_
            refine gx_get hC 0 inlX4 wf_RX4_7 rfl (gM0 hM) rfl rfl rfl rfl dX4_digest_81 rfl ?_
            refine gx_iconst (v := 4) hX dX4_digest_84 rfl (by decide) ?_
            refine gx_iald (i := 4) hC (gM1 hM) rfl rfl (by omega) rfl dX4_digest_85 rfl ?_
            refine gx_topi (b := (nI k4)) ((congrFun hrd.1 4).trans he4) ?_
            refine gx_nat_ge (i := k) (j := k4) (tgt := 108) hX dX4_digest_86 (by decide) rfl rfl rfl (by omega) (by omega) (fun h86 => ?_) (fun h86 => ?_)
            · have hke : k4 = k := by omega
              subst hke
              refine gx_aload_n hX 0 dX4_digest_108 rfl rfl ?_
              refine gx_aload_n hX 0 dX4_digest_109 rfl rfl ?_
              refine gx_get hC 0 inlX4 wf_RX4_7 rfl (gM0 hM) rfl rfl rfl rfl dX4_digest_110 rfl ?_
              refine gx_iconst (v := 0) hX dX4_digest_113 rfl (by decide) ?_
              refine gx_iald (i := 0) hC (gM1 hM) rfl rfl (by omega) rfl dX4_digest_114 rfl ?_
              refine gx_topi (b := (r 0)) (congrFun hrd.1 0) ?_
              refine gx_i2l hX dX4_digest_115 rfl ?_
              refine gx_callV (As := [.long (((r 0) : Int32).toInt64)]) (st := []) hC (c_X4_mix l Y mo τ1 (qhs (fun k => r (5 + k)) k4 (qmix (qmix (qmix (qmix (qhs cn 3 11872) (nI q)) (r 1)) (r 3)) (r 4))) (((r 0) : Int32).toInt64) hM) kX4_mix wm_RX4_154 rfl (gM0 hM) rfl rfl rfl rfl rfl dX4_digest_116 rfl (gx_kv fun τ116 hq116 => ?_)
              obtain rfl := hq116
              refine gx_store rfl ?_
              refine gx_iconst (v := 0) hX dX4_digest_119 rfl (by decide) ?_
              refine gx_istore_n (lv' := [(1, .int 0), (0, .ref mo)]) hX dX4_digest_120 rfl (by decide) rfl ?_
              have L121 : ∀ (k121 : Nat) (k : Nat), n - k < k121 → (k ≤ n) → gG p l e (gRm 7 152) s m args below meth c Y (gJ fun z τ => qdigest (r, n, P, q, cn) = z ∧ gMA Y mo τ (r, n, P, q, cn)) (uJ τ1 mo (qit (fun i h => qhc (qg r n) r i h) k (qmix (qhs (fun k => r (5 + k)) k4 (qmix (qmix (qmix (qmix (qhs cn 3 11872) (nI q)) (r 1)) (r 3)) (r 4))) (r 0)))) 121 [(0, .ref mo), (1, .int (nI k))] [] := by
                intro k121
                induction k121 with
                | zero => intro k hk121; exact absurd hk121 (Nat.not_lt_zero _)
                | succ k121 ih121 =>
                  intro k hk121 hk
                  refine gx_iload_n hX 1 dX4_digest_121 rfl rfl ?_
                  refine gx_aload_n hX 0 dX4_digest_122 rfl rfl ?_
                  refine gx_get hC 0 inlX4 wf_RX4_7 rfl (gM0 hM) rfl rfl rfl rfl dX4_digest_123 rfl ?_
                  refine gx_iconst (v := 0) hX dX4_digest_126 rfl (by decide) ?_
                  refine gx_iald (i := 0) hC (gM1 hM) rfl rfl (by omega) rfl dX4_digest_127 rfl ?_
                  refine gx_topi (b := (nI n)) ((congrFun hrd.1 0).trans hr2) ?_
                  refine gx_nat_ge (i := k) (j := n) (tgt := 142) hX dX4_digest_128 (by decide) rfl rfl rfl (by omega) (by omega) (fun h128 => ?_) (fun h128 => ?_)
                  · have hke : n = k := by omega
                    subst hke
                    refine gx_aload_n hX 0 dX4_digest_142 rfl rfl ?_
                    refine gx_aload_n hX 0 dX4_digest_143 rfl rfl ?_
                    refine gx_get hC 8 inlX4 wf_RX4_70 rfl (gM0 hM) rfl rfl rfl rfl dX4_digest_144 rfl ?_
                    refine gx_topi (b := (nI (qm (qg r n)))) hD4 ?_
                    refine gx_i2l hX dX4_digest_147 rfl ?_
                    refine gx_callV (As := [.long (((nI (qm (qg r n))) : Int32).toInt64)]) (st := []) hC (c_X4_mix l Y mo τ1 (qit (fun i h => qhc (qg r n) r i h) n (qmix (qhs (fun k => r (5 + k)) k4 (qmix (qmix (qmix (qmix (qhs cn 3 11872) (nI q)) (r 1)) (r 3)) (r 4))) (r 0))) (((nI (qm (qg r n))) : Int32).toInt64) hM) kX4_mix wm_RX4_154 rfl (gM0 hM) rfl rfl rfl rfl rfl dX4_digest_148 rfl (gx_kv fun τ148 hq148 => ?_)
                    obtain rfl := hq148
                    refine gx_store rfl ?_
                    refine gx_iconst (v := 0) hX dX4_digest_151 rfl (by decide) ?_
                    refine gx_istore_n (lv' := [(1, .int 0), (0, .ref mo)]) hX dX4_digest_152 rfl (by decide) rfl ?_
                    have L153 : ∀ (k153 : Nat) (k : Nat), (qm (qg r n)) - k < k153 → (k ≤ (qm (qg r n))) → gG p l e (gRm 7 152) s m args below meth c Y (gJ fun z τ => qdigest (r, n, P, q, cn) = z ∧ gMA Y mo τ (r, n, P, q, cn)) (uJ τ1 mo (qhs (fun k => nI (qo (qg r n) k)) k (qmix (qit (fun i h => qhc (qg r n) r i h) n (qmix (qhs (fun k => r (5 + k)) k4 (qmix (qmix (qmix (qmix (qhs cn 3 11872) (nI q)) (r 1)) (r 3)) (r 4))) (r 0))) (nI (qm (qg r n)))))) 153 [(0, .ref mo), (1, .int (nI k))] [] := by
                      intro k153
                      induction k153 with
                      | zero => intro k hk153; exact absurd hk153 (Nat.not_lt_zero _)
                      | succ k153 ih153 =>
                        intro k hk153 hk
                        refine gx_iload_n hX 1 dX4_digest_153 rfl rfl ?_
                        refine gx_aload_n hX 0 dX4_digest_154 rfl rfl ?_
                        refine gx_get hC 8 inlX4 wf_RX4_70 rfl (gM0 hM) rfl rfl rfl rfl dX4_digest_155 rfl ?_
                        refine gx_topi (b := (nI (qm (qg r n)))) hD4 ?_
                        refine gx_nat_ge (i := k) (j := qm (qg r n)) (tgt := 178) hX dX4_digest_158 (by decide) rfl rfl rfl (by omega) (by omega) (fun h158 => ?_) (fun h158 => ?_)
                        · refine gx_aload_n hX 0 dX4_digest_178 rfl rfl ?_
                          refine gx_get hC 11 inlX4 wf_RX4_150 rfl (gM0 hM) rfl rfl rfl rfl dX4_digest_179 rfl ?_
                          exact gx_lret hC dX4_digest_182 (⟨by rw [uJ_at, show k = qm (qg r n) by omega]; unfold qdigest; dsimp only; rw [he4, nI_clamp (by omega)], hAd⟩)
                        · refine gx_aload_n hX 0 dX4_digest_161 rfl rfl ?_
                          refine gx_aload_n hX 0 dX4_digest_162 rfl rfl ?_
                          refine gx_get hC 7 inlX4 wf_RX4_28 rfl (gM0 hM) rfl rfl rfl rfl dX4_digest_163 rfl ?_
                          refine gx_iload_n hX 1 dX4_digest_166 rfl rfl ?_
                          refine gx_iald (i := k) hC (gM7 hM) rfl rfl (by omega) rfl dX4_digest_167 rfl ?_
                          refine gx_topi (b := (nI (qo (qg r n) k))) (hD5 k h158) ?_
                          refine gx_i2l hX dX4_digest_168 rfl ?_
                          refine gx_callV (As := [.long (((nI (qo (qg r n) k)) : Int32).toInt64)]) (st := []) hC (c_X4_mix l Y mo τ1 (qhs (fun k => nI (qo (qg r n) k)) k (qmix (qit (fun i h => qhc (qg r n) r i h) n (qmix (qhs (fun k => r (5 + k)) k4 (qmix (qmix (qmix (qmix (qhs cn 3 11872) (nI q)) (r 1)) (r 3)) (r 4))) (r 0))) (nI (qm (qg r n))))) (((nI (qo (qg r n) k)) : Int32).toInt64) hM) kX4_mix wm_RX4_154 rfl (gM0 hM) rfl rfl rfl rfl rfl dX4_digest_169 rfl (gx_kv fun τ169 hq169 => ?_)
                          obtain rfl := hq169
                          refine gx_store rfl ?_
                          refine gx_iinc (w := (nI (k + 1))) (lv' := [(1, .int (nI (k + 1))), (0, .ref mo)]) hX 1 dX4_digest_172 rfl rfl (nI_add _ _) (by decide) rfl ?_
                          refine gx_goto (pc' := 153) hX dX4_digest_175 (by decide) ?_
                          exact gx_sub [1, 0] rfl (ih153 (k + 1) (by omega) (by omega))
                    exact gx_sub [1, 0] rfl (L153 ((qm (qg r n)) + 1) 0 (by omega) (by omega))
                  · refine gx_aload_n hX 0 dX4_digest_131 rfl rfl ?_
                    refine gx_iload_n hX 1 dX4_digest_132 rfl rfl ?_
                    refine gx_callV (As := [.int (nI k)]) (st := []) hC (c_X4_mixCell l Y mo τ1 r n hM hrd hD (qit (fun i h => qhc (qg r n) r i h) k (qmix (qhs (fun k => r (5 + k)) k4 (qmix (qmix (qmix (qmix (qhs cn 3 11872) (nI q)) (r 1)) (r 3)) (r 4))) (r 0))) k (by omega)) kX4_mixCell wm_RX4_160 rfl (gM0 hM) rfl rfl rfl rfl rfl dX4_digest_133 rfl (gx_kv fun τ133 hq133 => ?_)
                    obtain rfl := hq133
                    refine gx_iinc (w := (nI (k + 1))) (lv' := [(1, .int (nI (k + 1))), (0, .ref mo)]) hX 1 dX4_digest_136 rfl rfl (nI_add _ _) (by decide) rfl ?_
                    refine gx_goto (pc' := 121) hX dX4_digest_139 (by decide) ?_
                    exact gx_sub [1, 0] rfl (ih121 (k + 1) (by omega) (by omega))
              exact gx_sub [1, 0] rfl (L121 (n + 1) 0 (by omega) (by omega))
            · refine gx_aload_n hX 0 dX4_digest_89 rfl rfl ?_
              refine gx_aload_n hX 0 dX4_digest_90 rfl rfl ?_
              refine gx_get hC 0 inlX4 wf_RX4_7 rfl (gM0 hM) rfl rfl rfl rfl dX4_digest_91 rfl ?_
              refine gx_iconst (v := 5) hX dX4_digest_94 rfl (by decide) ?_
              refine gx_iload_n hX 1 dX4_digest_95 rfl rfl ?_
              refine gx_iaddN (i := 5) (j := k) hX dX4_digest_96 rfl rfl rfl ?_
              refine gx_iald (i := 5 + k) hC (gM1 hM) rfl rfl (by omega) rfl dX4_digest_97 rfl ?_
              refine gx_topi (b := (r (5 + k))) (congrFun hrd.1 (5 + k)) ?_
              refine gx_i2l hX dX4_digest_98 rfl ?_
              refine gx_callV (As := [.long (((r (5 + k)) : Int32).toInt64)]) (st := []) hC (c_X4_mix l Y mo τ1 (qhs (fun k => r (5 + k)) k (qmix (qmix (qmix (qmix (qhs cn 3 11872) (nI q)) (r 1)) (r 3)) (r 4))) (((r (5 + k)) : Int32).toInt64) hM) kX4_mix wm_RX4_154 rfl (gM0 hM) rfl rfl rfl rfl rfl dX4_digest_99 rfl (gx_kv fun τ99 hq99 => ?_)
              obtain rfl := hq99
              refine gx_store rfl ?_
              refine gx_iinc (w := (nI (k + 1))) (lv' := [(1, .int (nI (k + 1))), (0, .ref mo)]) hX 1 dX4_digest_102 rfl rfl (nI_add _ _) (by decide) rfl ?_
              refine gx_goto (pc' := 79) hX dX4_digest_105 (by decide) ?_
              exact gx_sub [1, 0] rfl (ih79 (k + 1) (by omega) (by omega))
        exact gx_sub [1, 0] rfl (L79 (k4 + 1) 0 (by omega) (by omega))
      · refine gx_aload_n hX 0 dX4_digest_18 rfl rfl ?_
        refine gx_aload_n hX 0 dX4_digest_19 rfl rfl ?_
        refine gx_get hC 3 inlX4 wf_RX4_16 rfl (gM0 hM) rfl rfl rfl rfl dX4_digest_20 rfl ?_
        refine gx_iload_n hX 1 dX4_digest_23 rfl rfl ?_
        refine gx_iald (i := k) hC (gM3 hM) rfl rfl (by omega) rfl dX4_digest_24 rfl ?_
        refine gx_topi (b := (cn k)) (by show τ1.1 (gF Y mo 3) k = cn k; rw [hAd.2.2]) ?_
        refine gx_i2l hX dX4_digest_25 rfl ?_
        refine gx_callV (As := [.long (((cn k) : Int32).toInt64)]) (st := []) hC (c_X4_mix l Y mo τ1 (qhs cn k 11872) (((cn k) : Int32).toInt64) hM) kX4_mix wm_RX4_154 rfl (gM0 hM) rfl rfl rfl rfl rfl dX4_digest_26 rfl (gx_kv fun τ26 hq26 => ?_)
        obtain rfl := hq26
        refine gx_store rfl ?_
        refine gx_iinc (w := (nI (k + 1))) (lv' := [(1, .int (nI (k + 1))), (0, .ref mo)]) hX 1 dX4_digest_29 rfl rfl (nI_add _ _) (by decide) rfl ?_
        refine gx_goto (pc' := 13) hX dX4_digest_32 (by decide) ?_
        exact gx_sub [1, 0] rfl (ih13 (k + 1) (by omega) (by omega))
  exact gx_sub [1, 0] rfl (L13 (3 + 1) 0 (by omega) (by omega))
