set_option maxRecDepth 100000 in
set_option maxHeartbeats 4000000 in
theorem c_X3_lastRunCount (l : Launch) (Y : gL) (nb : Nat) (σ : gS) (r : Nat → Int32) (n : Nat) (P : Nat → Nat → Int32) (q : Nat) (cn : Nat → Int32) (hM : zLC Y nb) (hA : zA Y nb σ (r, n, P, q, cn)) (B : Nat) (hBB : B + 12 < 2 ^ 30) (hI : qAI (r, n, P, q, cn) B) : gM l yX3_lastRunCount cX3_lastRunCount 1 (some .int) (gRm 0 0) Y [.ref nb] σ (gI fun z τ => r 4 = z ∧ zA Y nb τ (r, n, P, q, cn)) := by
  have hH : zH Y nb σ P q cn := hA.1
  have hB : zB Y σ (gF Y nb 0) r n := hA.2.1
  have hL : zL Y σ (gF Y nb 0) r := hA.2.2.1
  have hG : zG Y σ (gF Y nb 4) (qg r n) := hA.2.2.2.1
  have hF : zM (σ.1 nb 5) (qF (qg r n) r) := hA.2.2.2.2
  have hc := hH.1.1 _ hM.2.1
  have hn : n ≤ 12 := hB.2.1
  have hgn : qn (qg r n) = n := rfl
  have hm := qm_le (qg r n)
  have hI1 : qRI r n B := hI.1
  refine gM.of (by decide) rfl ?_
  intro p e s m args below meth c hC
  have hX := hC.1
  refine gx_aload_n hX 0 dX3_lastRunCount_0 rfl rfl ?_
  refine gx_get hC 0 inlX3 wf_RX3_12 rfl hM.1 rfl rfl rfl rfl dX3_lastRunCount_1 rfl ?_
  refine gx_get hC 6 inlX2 wf_RX3_97 rfl hM.2.1 rfl rfl rfl rfl dX3_lastRunCount_4 rfl ?_
  refine gx_topi (b := (r 4)) hL.cnt ?_
  exact gx_iret hC dX3_lastRunCount_7 (⟨rfl, hA⟩)

set_option maxRecDepth 100000 in
set_option maxHeartbeats 4000000 in
theorem c_X3_cellCount (l : Launch) (Y : gL) (nb : Nat) (σ : gS) (r : Nat → Int32) (n : Nat) (P : Nat → Nat → Int32) (q : Nat) (cn : Nat → Int32) (hM : zLC Y nb) (hA : zA Y nb σ (r, n, P, q, cn)) (B : Nat) (hBB : B + 12 < 2 ^ 30) (hI : qAI (r, n, P, q, cn) B) : gM l yX3_cellCount cX3_cellCount 1 (some .int) (gRm 0 0) Y [.ref nb] σ (gI fun z τ => r 0 = z ∧ zA Y nb τ (r, n, P, q, cn)) := by
  have hH : zH Y nb σ P q cn := hA.1
  have hB : zB Y σ (gF Y nb 0) r n := hA.2.1
  have hL : zL Y σ (gF Y nb 0) r := hA.2.2.1
  have hG : zG Y σ (gF Y nb 4) (qg r n) := hA.2.2.2.1
  have hF : zM (σ.1 nb 5) (qF (qg r n) r) := hA.2.2.2.2
  have hc := hH.1.1 _ hM.2.1
  have hn : n ≤ 12 := hB.2.1
  have hgn : qn (qg r n) = n := rfl
  have hm := qm_le (qg r n)
  have hI1 : qRI r n B := hI.1
  refine gM.of (by decide) rfl ?_
  intro p e s m args below meth c hC
  have hX := hC.1
  refine gx_aload_n hX 0 dX3_cellCount_0 rfl rfl ?_
  refine gx_get hC 0 inlX3 wf_RX3_12 rfl hM.1 rfl rfl rfl rfl dX3_cellCount_1 rfl ?_
  refine gx_get hC 1 inlX2 wf_RX3_46 rfl hM.2.1 rfl rfl rfl rfl dX3_cellCount_4 rfl ?_
  refine gx_topi (b := (r 0)) (hB.2.2.1.trans hB.1.symm) ?_
  exact gx_iret hC dX3_cellCount_7 (⟨rfl, hA⟩)

set_option maxRecDepth 100000 in
set_option maxHeartbeats 4000000 in
theorem c_X3_totalRuns (l : Launch) (Y : gL) (nb : Nat) (σ : gS) (r : Nat → Int32) (n : Nat) (P : Nat → Nat → Int32) (q : Nat) (cn : Nat → Int32) (hM : zLC Y nb) (hA : zA Y nb σ (r, n, P, q, cn)) (B : Nat) (hBB : B + 12 < 2 ^ 30) (hI : qAI (r, n, P, q, cn) B) : gM l yX3_totalRuns cX3_totalRuns 1 (some .int) (gRm 0 0) Y [.ref nb] σ (gI fun z τ => r 3 = z ∧ zA Y nb τ (r, n, P, q, cn)) := by
  have hH : zH Y nb σ P q cn := hA.1
  have hB : zB Y σ (gF Y nb 0) r n := hA.2.1
  have hL : zL Y σ (gF Y nb 0) r := hA.2.2.1
  have hG : zG Y σ (gF Y nb 4) (qg r n) := hA.2.2.2.1
  have hF : zM (σ.1 nb 5) (qF (qg r n) r) := hA.2.2.2.2
  have hc := hH.1.1 _ hM.2.1
  have hn : n ≤ 12 := hB.2.1
  have hgn : qn (qg r n) = n := rfl
  have hm := qm_le (qg r n)
  have hI1 : qRI r n B := hI.1
  refine gM.of (by decide) rfl ?_
  intro p e s m args below meth c hC
  have hX := hC.1
  refine gx_aload_n hX 0 dX3_totalRuns_0 rfl rfl ?_
  refine gx_get hC 0 inlX3 wf_RX3_12 rfl hM.1 rfl rfl rfl rfl dX3_totalRuns_1 rfl ?_
  refine gx_get hC 3 inlX2 wf_RX3_127 rfl hM.2.1 rfl rfl rfl rfl dX3_totalRuns_4 rfl ?_
  refine gx_topi (b := (r 3)) hB.2.2.2.2.1 ?_
  exact gx_iret hC dX3_totalRuns_7 (⟨rfl, hA⟩)

set_option maxRecDepth 100000 in
set_option maxHeartbeats 4000000 in
theorem c_X3_runnableCount (l : Launch) (Y : gL) (nb : Nat) (σ : gS) (r : Nat → Int32) (n : Nat) (P : Nat → Nat → Int32) (q : Nat) (cn : Nat → Int32) (hM : zLC Y nb) (hA : zA Y nb σ (r, n, P, q, cn)) (B : Nat) (hBB : B + 12 < 2 ^ 30) (hI : qAI (r, n, P, q, cn) B) : gM l yX3_runnableCount cX3_runnableCount 1 (some .int) (gRm 0 0) Y [.ref nb] σ (gI fun z τ => (qrunnableCount (r, n, P, q, cn)).1 = z ∧ zA Y nb τ (qrunnableCount (r, n, P, q, cn)).2) := by
  have hH : zH Y nb σ P q cn := hA.1
  have hB : zB Y σ (gF Y nb 0) r n := hA.2.1
  have hL : zL Y σ (gF Y nb 0) r := hA.2.2.1
  have hG : zG Y σ (gF Y nb 4) (qg r n) := hA.2.2.2.1
  have hF : zM (σ.1 nb 5) (qF (qg r n) r) := hA.2.2.2.2
  have hc := hH.1.1 _ hM.2.1
  have hn : n ≤ 12 := hB.2.1
  have hgn : qn (qg r n) = n := rfl
  have hm := qm_le (qg r n)
  have hI1 : qRI r n B := hI.1
  refine gM.of (by decide) rfl ?_
  intro p e s m args below meth c hC
  have hX := hC.1
  refine gx_aload_n hX 0 dX3_runnableCount_0 rfl rfl ?_
  refine gx_get hC 4 inlX3 wf_RX3_31 rfl hM.1 rfl rfl rfl rfl dX3_runnableCount_1 rfl ?_
  refine gx_get hC 6 inlX1 wf_RX3_139 rfl hM.2.2.2.2.1.1 rfl rfl rfl rfl dX3_runnableCount_4 rfl ?_
  refine gx_topi (b := (nI (qm (qg r n)))) hG.2.2.2.2.2.1 ?_
  exact gx_iret hC dX3_runnableCount_7 (⟨rfl, hA⟩)

set_option maxRecDepth 100000 in
set_option maxHeartbeats 4000000 in
theorem c_X3_variable (l : Launch) (Y : gL) (nb : Nat) (σ : gS) (r : Nat → Int32) (n : Nat) (P : Nat → Nat → Int32) (q : Nat) (cn : Nat → Int32) (hM : zLC Y nb) (hA : zA Y nb σ (r, n, P, q, cn)) (B : Nat) (hBB : B + 12 < 2 ^ 30) (hI : qAI (r, n, P, q, cn) B) (w : Int32) : gM l yX3_variable cX3_variable 2 (some .int) (gRm 1 22) Y [.ref nb, .int w] σ (gI fun z τ => (qof (r, n, P, q, cn) w 0).1 = z ∧ zA Y nb τ (qof (r, n, P, q, cn) w 0).2) := by
  have hH : zH Y nb σ P q cn := hA.1
  have hB : zB Y σ (gF Y nb 0) r n := hA.2.1
  have hL : zL Y σ (gF Y nb 0) r := hA.2.2.1
  have hG : zG Y σ (gF Y nb 4) (qg r n) := hA.2.2.2.1
  have hF : zM (σ.1 nb 5) (qF (qg r n) r) := hA.2.2.2.2
  have hc := hH.1.1 _ hM.2.1
  have hn : n ≤ 12 := hB.2.1
  have hgn : qn (qg r n) = n := rfl
  have hm := qm_le (qg r n)
  have hI1 : qRI r n B := hI.1
  refine gM.of (by decide) rfl ?_
  intro p e s m args below meth c hC
  have hX := hC.1
  refine gx_aload_n hX 0 dX3_variable_0 rfl rfl ?_
  refine gx_iload_n hX 1 dX3_variable_1 rfl rfl ?_
  refine gx_callV (As := [.int w]) (st := []) hC (c_X3_isCell l Y nb σ hM n hn hB.2.2.1 w) kX3_isCell wm_RX3_59 rfl hM.1 rfl rfl rfl rfl rfl dX3_variable_2 rfl (gx_ki fun r2 τ2 hq2 => ?_)
  obtain ⟨rfl, ⟨rfl, hb2⟩ | ⟨rfl, hb2⟩⟩ := hq2
  · obtain ⟨i, hi, rfl⟩ := hb2
    refine gx_if_eq_f (tgt := 23) hX dX3_variable_5 (by decide) rfl (by decide) ?_
    refine gx_aload_n hX 0 dX3_variable_8 rfl rfl ?_
    refine gx_get hC 0 inlX3 wf_RX3_12 rfl hM.1 rfl rfl rfl rfl dX3_variable_9 rfl ?_
    refine gx_get hC 0 inlX2 wf_RX3_63 rfl hM.2.1 rfl rfl rfl rfl dX3_variable_12 rfl ?_
    refine gx_iload_n hX 1 dX3_variable_15 rfl rfl ?_
    refine gx_aaldc (i := i) hC ((hM.2.2.2.2.2 _ hM.2.1).1) rfl rfl (by omega) rfl dX3_variable_16 rfl ?_
    refine gx_get hC 0 inlX0 wf_RX3_67 rfl ((hc i (by omega)).1) rfl rfl rfl rfl dX3_variable_17 rfl ?_
    refine gx_topi (b := (r (17 + 10 * i + 0))) ((hB.2.2.2.2.2.2 i hi).1) ?_
    refine gx_goto (pc' := 30) hX dX3_variable_20 (by decide) ?_
    refine gx_iret hC dX3_variable_30 ?_
    have hz : qof (r, n, P, q, cn) (nI i) 0 = (r (17 + 10 * i + 0), (r, n, P, q, cn)) := qcell_some hn hi
    rw [hz]
    exact ⟨rfl, hA⟩
  · refine gx_if_eq_t (tgt := 23) hX dX3_variable_5 (by decide) (by decide) ?_
    refine gx_aload_n hX 0 dX3_variable_23 rfl rfl ?_
    refine gx_sipush (v := (-10002)) hX dX3_variable_24 rfl (by decide) ?_
    refine gx_callV (As := [.int (-10002)]) (st := []) hC (c_X3_fail l Y nb σ hM (-10002) 0 (by omega) (by decide)) kX3_fail wm_RX3_42 rfl hM.1 rfl rfl rfl rfl rfl dX3_variable_27 rfl (gx_ki fun r27 τ27 hq27 => ?_)
    obtain ⟨rfl, rfl⟩ := hq27
    refine gx_iret hC dX3_variable_30 ?_
    have hz : qof (r, n, P, q, cn) w 0 = (-10002, qfail (r, n, P, q, cn) 0) := qcell_none hn hb2
    rw [hz]
    exact ⟨rfl, hA.fail hM⟩

set_option maxRecDepth 100000 in
set_option maxHeartbeats 4000000 in
theorem c_X3_version (l : Launch) (Y : gL) (nb : Nat) (σ : gS) (r : Nat → Int32) (n : Nat) (P : Nat → Nat → Int32) (q : Nat) (cn : Nat → Int32) (hM : zLC Y nb) (hA : zA Y nb σ (r, n, P, q, cn)) (B : Nat) (hBB : B + 12 < 2 ^ 30) (hI : qAI (r, n, P, q, cn) B) (w : Int32) : gM l yX3_version cX3_version 2 (some .int) (gRm 1 22) Y [.ref nb, .int w] σ (gI fun z τ => (qof (r, n, P, q, cn) w 5).1 = z ∧ zA Y nb τ (qof (r, n, P, q, cn) w 5).2) := by
  have hH : zH Y nb σ P q cn := hA.1
  have hB : zB Y σ (gF Y nb 0) r n := hA.2.1
  have hL : zL Y σ (gF Y nb 0) r := hA.2.2.1
  have hG : zG Y σ (gF Y nb 4) (qg r n) := hA.2.2.2.1
  have hF : zM (σ.1 nb 5) (qF (qg r n) r) := hA.2.2.2.2
  have hc := hH.1.1 _ hM.2.1
  have hn : n ≤ 12 := hB.2.1
  have hgn : qn (qg r n) = n := rfl
  have hm := qm_le (qg r n)
  have hI1 : qRI r n B := hI.1
  refine gM.of (by decide) rfl ?_
  intro p e s m args below meth c hC
  have hX := hC.1
  refine gx_aload_n hX 0 dX3_version_0 rfl rfl ?_
  refine gx_iload_n hX 1 dX3_version_1 rfl rfl ?_
  refine gx_callV (As := [.int w]) (st := []) hC (c_X3_isCell l Y nb σ hM n hn hB.2.2.1 w) kX3_isCell wm_RX3_59 rfl hM.1 rfl rfl rfl rfl rfl dX3_version_2 rfl (gx_ki fun r2 τ2 hq2 => ?_)
  obtain ⟨rfl, ⟨rfl, hb2⟩ | ⟨rfl, hb2⟩⟩ := hq2
  · obtain ⟨i, hi, rfl⟩ := hb2
    refine gx_if_eq_f (tgt := 23) hX dX3_version_5 (by decide) rfl (by decide) ?_
    refine gx_aload_n hX 0 dX3_version_8 rfl rfl ?_
    refine gx_get hC 0 inlX3 wf_RX3_12 rfl hM.1 rfl rfl rfl rfl dX3_version_9 rfl ?_
    refine gx_get hC 0 inlX2 wf_RX3_63 rfl hM.2.1 rfl rfl rfl rfl dX3_version_12 rfl ?_
    refine gx_iload_n hX 1 dX3_version_15 rfl rfl ?_
    refine gx_aaldc (i := i) hC ((hM.2.2.2.2.2 _ hM.2.1).1) rfl rfl (by omega) rfl dX3_version_16 rfl ?_
    refine gx_get hC 5 inlX0 wf_RX3_121 rfl ((hc i (by omega)).1) rfl rfl rfl rfl dX3_version_17 rfl ?_
    refine gx_topi (b := (r (17 + 10 * i + 5))) ((hB.2.2.2.2.2.2 i hi).2.2.2.2.1) ?_
    refine gx_goto (pc' := 30) hX dX3_version_20 (by decide) ?_
    refine gx_iret hC dX3_version_30 ?_
    have hz : qof (r, n, P, q, cn) (nI i) 5 = (r (17 + 10 * i + 5), (r, n, P, q, cn)) := qcell_some hn hi
    rw [hz]
    exact ⟨rfl, hA⟩
  · refine gx_if_eq_t (tgt := 23) hX dX3_version_5 (by decide) (by decide) ?_
    refine gx_aload_n hX 0 dX3_version_23 rfl rfl ?_
    refine gx_sipush (v := (-10002)) hX dX3_version_24 rfl (by decide) ?_
    refine gx_callV (As := [.int (-10002)]) (st := []) hC (c_X3_fail l Y nb σ hM (-10002) 0 (by omega) (by decide)) kX3_fail wm_RX3_42 rfl hM.1 rfl rfl rfl rfl rfl dX3_version_27 rfl (gx_ki fun r27 τ27 hq27 => ?_)
    obtain ⟨rfl, rfl⟩ := hq27
    refine gx_iret hC dX3_version_30 ?_
    have hz : qof (r, n, P, q, cn) w 5 = (-10002, qfail (r, n, P, q, cn) 0) := qcell_none hn hb2
    rw [hz]
    exact ⟨rfl, hA.fail hM⟩

set_option maxRecDepth 100000 in
set_option maxHeartbeats 4000000 in
theorem c_X3_runs (l : Launch) (Y : gL) (nb : Nat) (σ : gS) (r : Nat → Int32) (n : Nat) (P : Nat → Nat → Int32) (q : Nat) (cn : Nat → Int32) (hM : zLC Y nb) (hA : zA Y nb σ (r, n, P, q, cn)) (B : Nat) (hBB : B + 12 < 2 ^ 30) (hI : qAI (r, n, P, q, cn) B) (w : Int32) : gM l yX3_runs cX3_runs 2 (some .int) (gRm 1 22) Y [.ref nb, .int w] σ (gI fun z τ => (qof (r, n, P, q, cn) w 8).1 = z ∧ zA Y nb τ (qof (r, n, P, q, cn) w 8).2) := by
  have hH : zH Y nb σ P q cn := hA.1
  have hB : zB Y σ (gF Y nb 0) r n := hA.2.1
  have hL : zL Y σ (gF Y nb 0) r := hA.2.2.1
  have hG : zG Y σ (gF Y nb 4) (qg r n) := hA.2.2.2.1
  have hF : zM (σ.1 nb 5) (qF (qg r n) r) := hA.2.2.2.2
  have hc := hH.1.1 _ hM.2.1
  have hn : n ≤ 12 := hB.2.1
  have hgn : qn (qg r n) = n := rfl
  have hm := qm_le (qg r n)
  have hI1 : qRI r n B := hI.1
  refine gM.of (by decide) rfl ?_
  intro p e s m args below meth c hC
  have hX := hC.1
  refine gx_aload_n hX 0 dX3_runs_0 rfl rfl ?_
  refine gx_iload_n hX 1 dX3_runs_1 rfl rfl ?_
  refine gx_callV (As := [.int w]) (st := []) hC (c_X3_isCell l Y nb σ hM n hn hB.2.2.1 w) kX3_isCell wm_RX3_59 rfl hM.1 rfl rfl rfl rfl rfl dX3_runs_2 rfl (gx_ki fun r2 τ2 hq2 => ?_)
  obtain ⟨rfl, ⟨rfl, hb2⟩ | ⟨rfl, hb2⟩⟩ := hq2
  · obtain ⟨i, hi, rfl⟩ := hb2
    refine gx_if_eq_f (tgt := 23) hX dX3_runs_5 (by decide) rfl (by decide) ?_
    refine gx_aload_n hX 0 dX3_runs_8 rfl rfl ?_
    refine gx_get hC 0 inlX3 wf_RX3_12 rfl hM.1 rfl rfl rfl rfl dX3_runs_9 rfl ?_
    refine gx_get hC 0 inlX2 wf_RX3_63 rfl hM.2.1 rfl rfl rfl rfl dX3_runs_12 rfl ?_
    refine gx_iload_n hX 1 dX3_runs_15 rfl rfl ?_
    refine gx_aaldc (i := i) hC ((hM.2.2.2.2.2 _ hM.2.1).1) rfl rfl (by omega) rfl dX3_runs_16 rfl ?_
    refine gx_get hC 8 inlX0 wf_RX3_124 rfl ((hc i (by omega)).1) rfl rfl rfl rfl dX3_runs_17 rfl ?_
    refine gx_topi (b := (r (17 + 10 * i + 8))) ((hB.2.2.2.2.2.2 i hi).2.2.2.2.2.1) ?_
    refine gx_goto (pc' := 30) hX dX3_runs_20 (by decide) ?_
    refine gx_iret hC dX3_runs_30 ?_
    have hz : qof (r, n, P, q, cn) (nI i) 8 = (r (17 + 10 * i + 8), (r, n, P, q, cn)) := qcell_some hn hi
    rw [hz]
    exact ⟨rfl, hA⟩
  · refine gx_if_eq_t (tgt := 23) hX dX3_runs_5 (by decide) (by decide) ?_
    refine gx_aload_n hX 0 dX3_runs_23 rfl rfl ?_
    refine gx_sipush (v := (-10002)) hX dX3_runs_24 rfl (by decide) ?_
    refine gx_callV (As := [.int (-10002)]) (st := []) hC (c_X3_fail l Y nb σ hM (-10002) 0 (by omega) (by decide)) kX3_fail wm_RX3_42 rfl hM.1 rfl rfl rfl rfl rfl dX3_runs_27 rfl (gx_ki fun r27 τ27 hq27 => ?_)
    obtain ⟨rfl, rfl⟩ := hq27
    refine gx_iret hC dX3_runs_30 ?_
    have hz : qof (r, n, P, q, cn) w 8 = (-10002, qfail (r, n, P, q, cn) 0) := qcell_none hn hb2
    rw [hz]
    exact ⟨rfl, hA.fail hM⟩

set_option maxRecDepth 100000 in
set_option maxHeartbeats 4000000 in
theorem c_X3_status (l : Launch) (Y : gL) (nb : Nat) (σ : gS) (r : Nat → Int32) (n : Nat) (P : Nat → Nat → Int32) (q : Nat) (cn : Nat → Int32) (hM : zLC Y nb) (hA : zA Y nb σ (r, n, P, q, cn)) (B : Nat) (hBB : B + 12 < 2 ^ 30) (hI : qAI (r, n, P, q, cn) B) (w : Int32) : gM l yX3_status cX3_status 2 (some .int) (gRm 2 43) Y [.ref nb, .int w] σ (gI fun z τ => (qstatus (r, n, P, q, cn) w).1 = z ∧ zA Y nb τ (qstatus (r, n, P, q, cn) w).2) := by
  have hH : zH Y nb σ P q cn := hA.1
  have hB : zB Y σ (gF Y nb 0) r n := hA.2.1
  have hL : zL Y σ (gF Y nb 0) r := hA.2.2.1
  have hG : zG Y σ (gF Y nb 4) (qg r n) := hA.2.2.2.1
  have hF : zM (σ.1 nb 5) (qF (qg r n) r) := hA.2.2.2.2
  have hc := hH.1.1 _ hM.2.1
  have hn : n ≤ 12 := hB.2.1
  have hgn : qn (qg r n) = n := rfl
  have hm := qm_le (qg r n)
  have hI1 : qRI r n B := hI.1
  refine gM.of (by decide) rfl ?_
  intro p e s m args below meth c hC
  have hX := hC.1
  refine gx_aload_n hX 0 dX3_status_0 rfl rfl ?_
  refine gx_iload_n hX 1 dX3_status_1 rfl rfl ?_
  refine gx_callV (As := [.int w]) (st := []) hC (c_X3_isCell l Y nb σ hM n hn hB.2.2.1 w) kX3_isCell wm_RX3_59 rfl hM.1 rfl rfl rfl rfl rfl dX3_status_2 rfl (gx_ki fun r2 τ2 hq2 => ?_)
  obtain ⟨rfl, ⟨rfl, hb2⟩ | ⟨rfl, hb2⟩⟩ := hq2
  · obtain ⟨i, hi, rfl⟩ := hb2
    refine gx_if_eq_f (tgt := 16) hX dX3_status_5 (by decide) rfl (by decide) ?_
    refine gx_aload_n hX 0 dX3_status_8 rfl rfl ?_
    refine gx_iload_n hX 1 dX3_status_9 rfl rfl ?_
    refine gx_callV (As := [.int (nI i)]) (st := []) hC (c_X3_statusOf l Y nb σ r n P q cn hM hA B hBB hI i (by omega)) kX3_statusOf wm_RX3_109 rfl hM.1 rfl rfl rfl rfl rfl dX3_status_10 rfl (gx_ki fun r10 τ10 hq10 => ?_)
    obtain ⟨rfl, rfl⟩ := hq10
    refine gx_goto (pc' := 23) hX dX3_status_13 (by decide) ?_
    refine gx_iret hC dX3_status_23 ?_
    have hz : qstatus (r, n, P, q, cn) (nI i) = (qsta (qg r n) r i, (r, n, P, q, cn)) := qcell_some hn hi
    rw [hz]
    exact ⟨rfl, hA⟩
  · refine gx_if_eq_t (tgt := 16) hX dX3_status_5 (by decide) (by decide) ?_
    refine gx_aload_n hX 0 dX3_status_16 rfl rfl ?_
    refine gx_sipush (v := (-10002)) hX dX3_status_17 rfl (by decide) ?_
    refine gx_callV (As := [.int (-10002)]) (st := []) hC (c_X3_fail l Y nb σ hM (-10002) 0 (by omega) (by decide)) kX3_fail wm_RX3_42 rfl hM.1 rfl rfl rfl rfl rfl dX3_status_20 rfl (gx_ki fun r20 τ20 hq20 => ?_)
    obtain ⟨rfl, rfl⟩ := hq20
    refine gx_iret hC dX3_status_23 ?_
    have hz : qstatus (r, n, P, q, cn) w = (-10002, qfail (r, n, P, q, cn) 0) := qcell_none hn hb2
    rw [hz]
    exact ⟨rfl, hA.fail hM⟩

set_option maxRecDepth 100000 in
set_option maxHeartbeats 4000000 in
theorem c_X3_value (l : Launch) (Y : gL) (nb : Nat) (σ : gS) (r : Nat → Int32) (n : Nat) (P : Nat → Nat → Int32) (q : Nat) (cn : Nat → Int32) (hM : zLC Y nb) (hA : zA Y nb σ (r, n, P, q, cn)) (B : Nat) (hBB : B + 12 < 2 ^ 30) (hI : qAI (r, n, P, q, cn) B) (w : Int32) : gM l yX3_value cX3_value 2 (some .int) (gRm 3 64) Y [.ref nb, .int w] σ (gI fun z τ => (qvalue (r, n, P, q, cn) w).1 = z ∧ zA Y nb τ (qvalue (r, n, P, q, cn) w).2) := by
  have hH : zH Y nb σ P q cn := hA.1
  have hB : zB Y σ (gF Y nb 0) r n := hA.2.1
  have hL : zL Y σ (gF Y nb 0) r := hA.2.2.1
  have hG : zG Y σ (gF Y nb 4) (qg r n) := hA.2.2.2.1
  have hF : zM (σ.1 nb 5) (qF (qg r n) r) := hA.2.2.2.2
  have hc := hH.1.1 _ hM.2.1
  have hn : n ≤ 12 := hB.2.1
  have hgn : qn (qg r n) = n := rfl
  have hm := qm_le (qg r n)
  have hI1 : qRI r n B := hI.1
  refine gM.of (by decide) rfl ?_
  intro p e s m args below meth c hC
  have hX := hC.1
  refine gx_aload_n hX 0 dX3_value_0 rfl rfl ?_
  refine gx_iload_n hX 1 dX3_value_1 rfl rfl ?_
  refine gx_callV (As := [.int w]) (st := []) hC (c_X3_isCell l Y nb σ hM n hn hB.2.2.1 w) kX3_isCell wm_RX3_59 rfl hM.1 rfl rfl rfl rfl rfl dX3_value_2 rfl (gx_ki fun r2 τ2 hq2 => ?_)
  obtain ⟨rfl, ⟨rfl, hb2⟩ | ⟨rfl, hb2⟩⟩ := hq2
  · obtain ⟨i, hi, rfl⟩ := hb2
    refine gx_if_eq_f (tgt := 16) hX dX3_value_5 (by decide) rfl (by decide) ?_
    refine gx_aload_n hX 0 dX3_value_8 rfl rfl ?_
    refine gx_iload_n hX 1 dX3_value_9 rfl rfl ?_
    refine gx_callV (As := [.int (nI i)]) (st := []) hC (c_X3_freshValueOf l Y nb σ r n P q cn hM hA B hBB hI i (by omega)) kX3_freshValueOf wm_RX3_112 rfl hM.1 rfl rfl rfl rfl rfl dX3_value_10 rfl (gx_ki fun r10 τ10 hq10 => ?_)
    obtain ⟨rfl, rfl⟩ := hq10
    refine gx_goto (pc' := 23) hX dX3_value_13 (by decide) ?_
    refine gx_iret hC dX3_value_23 ?_
    have hz : qvalue (r, n, P, q, cn) (nI i) = (qval (qg r n) r i, (r, n, P, q, cn)) := qcell_some hn hi
    rw [hz]
    exact ⟨rfl, hA⟩
  · refine gx_if_eq_t (tgt := 16) hX dX3_value_5 (by decide) (by decide) ?_
    refine gx_aload_n hX 0 dX3_value_16 rfl rfl ?_
    refine gx_sipush (v := (-10002)) hX dX3_value_17 rfl (by decide) ?_
    refine gx_callV (As := [.int (-10002)]) (st := []) hC (c_X3_fail l Y nb σ hM (-10002) 0 (by omega) (by decide)) kX3_fail wm_RX3_42 rfl hM.1 rfl rfl rfl rfl rfl dX3_value_20 rfl (gx_ki fun r20 τ20 hq20 => ?_)
    obtain ⟨rfl, rfl⟩ := hq20
    refine gx_iret hC dX3_value_23 ?_
    have hz : qvalue (r, n, P, q, cn) w = (-10002, qfail (r, n, P, q, cn) 0) := qcell_none hn hb2
    rw [hz]
    exact ⟨rfl, hA.fail hM⟩

set_option maxRecDepth 100000 in
set_option maxHeartbeats 4000000 in
theorem c_X3_dependencies (l : Launch) (Y : gL) (nb : Nat) (σ : gS) (r : Nat → Int32) (n : Nat) (P : Nat → Nat → Int32) (q : Nat) (cn : Nat → Int32) (hM : zLC Y nb) (hA : zA Y nb σ (r, n, P, q, cn)) (B : Nat) (hBB : B + 12 < 2 ^ 30) (hI : qAI (r, n, P, q, cn) B) (w : Int32) : gM l yX3_dependencies cX3_dependencies 2 (some .int) (gRm 1 22) Y [.ref nb, .int w] σ (gI fun z τ => (qdependencies (r, n, P, q, cn) w).1 = z ∧ zA Y nb τ (qdependencies (r, n, P, q, cn) w).2) := by
  have hH : zH Y nb σ P q cn := hA.1
  have hB : zB Y σ (gF Y nb 0) r n := hA.2.1
  have hL : zL Y σ (gF Y nb 0) r := hA.2.2.1
  have hG : zG Y σ (gF Y nb 4) (qg r n) := hA.2.2.2.1
  have hF : zM (σ.1 nb 5) (qF (qg r n) r) := hA.2.2.2.2
  have hc := hH.1.1 _ hM.2.1
  have hn : n ≤ 12 := hB.2.1
  have hgn : qn (qg r n) = n := rfl
  have hm := qm_le (qg r n)
  have hI1 : qRI r n B := hI.1
  refine gM.of (by decide) rfl ?_
  intro p e s m args below meth c hC
  have hX := hC.1
  refine gx_aload_n hX 0 dX3_dependencies_0 rfl rfl ?_
  refine gx_iload_n hX 1 dX3_dependencies_1 rfl rfl ?_
  refine gx_callV (As := [.int w]) (st := []) hC (c_X3_isCell l Y nb σ hM n hn hB.2.2.1 w) kX3_isCell wm_RX3_59 rfl hM.1 rfl rfl rfl rfl rfl dX3_dependencies_2 rfl (gx_ki fun r2 τ2 hq2 => ?_)
  obtain ⟨rfl, ⟨rfl, hb2⟩ | ⟨rfl, hb2⟩⟩ := hq2
  · obtain ⟨i, hi, rfl⟩ := hb2
    refine gx_if_eq_f (tgt := 20) hX dX3_dependencies_5 (by decide) rfl (by decide) ?_
    refine gx_aload_n hX 0 dX3_dependencies_8 rfl rfl ?_
    refine gx_get hC 4 inlX3 wf_RX3_31 rfl hM.1 rfl rfl rfl rfl dX3_dependencies_9 rfl ?_
    refine gx_get hC 2 inlX1 wf_RX3_130 rfl hM.2.2.2.2.1.1 rfl rfl rfl rfl dX3_dependencies_12 rfl ?_
    refine gx_iload_n hX 1 dX3_dependencies_15 rfl rfl ?_
    refine gx_iald (i := i) hC hM.2.2.2.2.1.2.2.2.1 rfl rfl (by omega) rfl dX3_dependencies_16 rfl ?_
    refine gx_topi (b := (qdir (qg r n) i)) (hG.2.2.1 i hi) ?_
    refine gx_goto (pc' := 27) hX dX3_dependencies_17 (by decide) ?_
    refine gx_iret hC dX3_dependencies_27 ?_
    have hz : qdependencies (r, n, P, q, cn) (nI i) = (qdir (qg r n) i, (r, n, P, q, cn)) := qcell_some hn hi
    rw [hz]
    exact ⟨rfl, hA⟩
  · refine gx_if_eq_t (tgt := 20) hX dX3_dependencies_5 (by decide) (by decide) ?_
    refine gx_aload_n hX 0 dX3_dependencies_20 rfl rfl ?_
    refine gx_sipush (v := (-10002)) hX dX3_dependencies_21 rfl (by decide) ?_
    refine gx_callV (As := [.int (-10002)]) (st := []) hC (c_X3_fail l Y nb σ hM (-10002) 0 (by omega) (by decide)) kX3_fail wm_RX3_42 rfl hM.1 rfl rfl rfl rfl rfl dX3_dependencies_24 rfl (gx_ki fun r24 τ24 hq24 => ?_)
    obtain ⟨rfl, rfl⟩ := hq24
    refine gx_iret hC dX3_dependencies_27 ?_
    have hz : qdependencies (r, n, P, q, cn) w = (-10002, qfail (r, n, P, q, cn) 0) := qcell_none hn hb2
    rw [hz]
    exact ⟨rfl, hA.fail hM⟩

set_option maxRecDepth 100000 in
set_option maxHeartbeats 4000000 in
theorem c_X3_dependents (l : Launch) (Y : gL) (nb : Nat) (σ : gS) (r : Nat → Int32) (n : Nat) (P : Nat → Nat → Int32) (q : Nat) (cn : Nat → Int32) (hM : zLC Y nb) (hA : zA Y nb σ (r, n, P, q, cn)) (B : Nat) (hBB : B + 12 < 2 ^ 30) (hI : qAI (r, n, P, q, cn) B) (w : Int32) : gM l yX3_dependents cX3_dependents 2 (some .int) (gRm 2 44) Y [.ref nb, .int w] σ (gI fun z τ => (qdependents (r, n, P, q, cn) w).1 = z ∧ zA Y nb τ (qdependents (r, n, P, q, cn) w).2) := by
  have hH : zH Y nb σ P q cn := hA.1
  have hB : zB Y σ (gF Y nb 0) r n := hA.2.1
  have hL : zL Y σ (gF Y nb 0) r := hA.2.2.1
  have hG : zG Y σ (gF Y nb 4) (qg r n) := hA.2.2.2.1
  have hF : zM (σ.1 nb 5) (qF (qg r n) r) := hA.2.2.2.2
  have hc := hH.1.1 _ hM.2.1
  have hn : n ≤ 12 := hB.2.1
  have hgn : qn (qg r n) = n := rfl
  have hm := qm_le (qg r n)
  have hI1 : qRI r n B := hI.1
  refine gM.of (by decide) rfl ?_
  intro p e s m args below meth c hC
  have hX := hC.1
  refine gx_aload_n hX 0 dX3_dependents_0 rfl rfl ?_
  refine gx_iload_n hX 1 dX3_dependents_1 rfl rfl ?_
  refine gx_callV (As := [.int w]) (st := []) hC (c_X3_isCell l Y nb σ hM n hn hB.2.2.1 w) kX3_isCell wm_RX3_59 rfl hM.1 rfl rfl rfl rfl rfl dX3_dependents_2 rfl (gx_ki fun r2 τ2 hq2 => ?_)
  obtain ⟨rfl, ⟨rfl, hb2⟩ | ⟨rfl, hb2⟩⟩ := hq2
  · obtain ⟨i, hi, rfl⟩ := hb2
    refine gx_if_eq_f (tgt := 16) hX dX3_dependents_5 (by decide) rfl (by decide) ?_
    refine gx_aload_n hX 0 dX3_dependents_8 rfl rfl ?_
    refine gx_iload_n hX 1 dX3_dependents_9 rfl rfl ?_
    refine gx_callV (As := [.int (nI i)]) (st := []) hC (c_X3_dependentsOf l Y nb σ r n P q cn hM hA B hBB hI i (by omega)) kX3_dependentsOf wm_RX3_133 rfl hM.1 rfl rfl rfl rfl rfl dX3_dependents_10 rfl (gx_ki fun r10 τ10 hq10 => ?_)
    obtain ⟨rfl, rfl⟩ := hq10
    refine gx_goto (pc' := 23) hX dX3_dependents_13 (by decide) ?_
    refine gx_iret hC dX3_dependents_23 ?_
    have hz : qdependents (r, n, P, q, cn) (nI i) = (qdpt (qg r n) i n, (r, n, P, q, cn)) := qcell_some hn hi
    rw [hz]
    exact ⟨rfl, hA⟩
  · refine gx_if_eq_t (tgt := 16) hX dX3_dependents_5 (by decide) (by decide) ?_
    refine gx_aload_n hX 0 dX3_dependents_16 rfl rfl ?_
    refine gx_sipush (v := (-10002)) hX dX3_dependents_17 rfl (by decide) ?_
    refine gx_callV (As := [.int (-10002)]) (st := []) hC (c_X3_fail l Y nb σ hM (-10002) 0 (by omega) (by decide)) kX3_fail wm_RX3_42 rfl hM.1 rfl rfl rfl rfl rfl dX3_dependents_20 rfl (gx_ki fun r20 τ20 hq20 => ?_)
    obtain ⟨rfl, rfl⟩ := hq20
    refine gx_iret hC dX3_dependents_23 ?_
    have hz : qdependents (r, n, P, q, cn) w = (-10002, qfail (r, n, P, q, cn) 0) := qcell_none hn hb2
    rw [hz]
    exact ⟨rfl, hA.fail hM⟩

set_option maxRecDepth 100000 in
set_option maxHeartbeats 4000000 in
theorem c_X3_definers (l : Launch) (Y : gL) (nb : Nat) (σ : gS) (r : Nat → Int32) (n : Nat) (P : Nat → Nat → Int32) (q : Nat) (cn : Nat → Int32) (hM : zLC Y nb) (hA : zA Y nb σ (r, n, P, q, cn)) (B : Nat) (hBB : B + 12 < 2 ^ 30) (hI : qAI (r, n, P, q, cn) B) (x : Int32) : gM l yX3_definers cX3_definers 2 (some .int) (gRm 1 22) Y [.ref nb, .int x] σ (gI fun z τ => (qdefiners (r, n, P, q, cn) x).1 = z ∧ zA Y nb τ (qdefiners (r, n, P, q, cn) x).2) := by
  have hH : zH Y nb σ P q cn := hA.1
  have hB : zB Y σ (gF Y nb 0) r n := hA.2.1
  have hL : zL Y σ (gF Y nb 0) r := hA.2.2.1
  have hG : zG Y σ (gF Y nb 4) (qg r n) := hA.2.2.2.1
  have hF : zM (σ.1 nb 5) (qF (qg r n) r) := hA.2.2.2.2
  have hc := hH.1.1 _ hM.2.1
  have hn : n ≤ 12 := hB.2.1
  have hgn : qn (qg r n) = n := rfl
  have hm := qm_le (qg r n)
  have hI1 : qRI r n B := hI.1
  refine gM.of (by decide) rfl ?_
  intro p e s m args below meth c hC
  have hX := hC.1
  refine gx_iload_n hX 1 dX3_definers_0 rfl rfl ?_
  refine gx_callS (As := [.int x]) (st := []) hC (c_X3_isVariable l Y σ x) kX3_isVariable wm_RX3_115 rfl rfl rfl rfl dX3_definers_1 rfl (gx_ki fun r1 τ1 hq1 => ?_)
  obtain ⟨rfl, ⟨rfl, hb1⟩ | ⟨rfl, hb1⟩⟩ := hq1
  · obtain ⟨j, hj, rfl⟩ := qn10 (m := 9) rfl (by omega) hb1
    refine gx_if_eq_f (tgt := 19) hX dX3_definers_4 (by decide) rfl (by decide) ?_
    refine gx_aload_n hX 0 dX3_definers_7 rfl rfl ?_
    refine gx_get hC 4 inlX3 wf_RX3_31 rfl hM.1 rfl rfl rfl rfl dX3_definers_8 rfl ?_
    refine gx_get hC 0 inlX1 wf_RX3_136 rfl hM.2.2.2.2.1.1 rfl rfl rfl rfl dX3_definers_11 rfl ?_
    refine gx_iload_n hX 1 dX3_definers_14 rfl rfl ?_
    refine gx_iald (i := j) hC hM.2.2.2.2.1.2.1 rfl rfl (by omega) rfl dX3_definers_15 rfl ?_
    refine gx_topi (b := (qdf (qg r n) (nI j))) (hG.1 j (by omega)) ?_
    refine gx_goto (pc' := 26) hX dX3_definers_16 (by decide) ?_
    refine gx_iret hC dX3_definers_26 ?_
    have hz : qdefiners (r, n, P, q, cn) (nI j) = (qdf (qg r n) (nI j), (r, n, P, q, cn)) := if_pos hb1
    rw [hz]
    exact ⟨rfl, hA⟩
  · refine gx_if_eq_t (tgt := 19) hX dX3_definers_4 (by decide) (by decide) ?_
    refine gx_aload_n hX 0 dX3_definers_19 rfl rfl ?_
    refine gx_sipush (v := (-10002)) hX dX3_definers_20 rfl (by decide) ?_
    refine gx_callV (As := [.int (-10002)]) (st := []) hC (c_X3_fail l Y nb σ hM (-10002) 0 (by omega) (by decide)) kX3_fail wm_RX3_42 rfl hM.1 rfl rfl rfl rfl rfl dX3_definers_23 rfl (gx_ki fun r23 τ23 hq23 => ?_)
    obtain ⟨rfl, rfl⟩ := hq23
    refine gx_iret hC dX3_definers_26 ?_
    have hz : qdefiners (r, n, P, q, cn) x = (-10002, qfail (r, n, P, q, cn) 0) := if_neg hb1
    rw [hz]
    exact ⟨rfl, hA.fail hM⟩

set_option maxRecDepth 100000 in
set_option maxHeartbeats 4000000 in
theorem c_X3_valueOf (l : Launch) (Y : gL) (nb : Nat) (σ : gS) (r : Nat → Int32) (n : Nat) (P : Nat → Nat → Int32) (q : Nat) (cn : Nat → Int32) (hM : zLC Y nb) (hA : zA Y nb σ (r, n, P, q, cn)) (B : Nat) (hBB : B + 12 < 2 ^ 30) (hI : qAI (r, n, P, q, cn) B) (x : Int32) : gM l yX3_valueOf cX3_valueOf 3 (some .int) (gRm 3 64) Y [.ref nb, .int x] σ (gI fun z τ => (qvalueOf (r, n, P, q, cn) x).1 = z ∧ zA Y nb τ (qvalueOf (r, n, P, q, cn) x).2) := by
  have hH : zH Y nb σ P q cn := hA.1
  have hB : zB Y σ (gF Y nb 0) r n := hA.2.1
  have hL : zL Y σ (gF Y nb 0) r := hA.2.2.1
  have hG : zG Y σ (gF Y nb 4) (qg r n) := hA.2.2.2.1
  have hF : zM (σ.1 nb 5) (qF (qg r n) r) := hA.2.2.2.2
  have hc := hH.1.1 _ hM.2.1
  have hn : n ≤ 12 := hB.2.1
  have hgn : qn (qg r n) = n := rfl
  have hm := qm_le (qg r n)
  have hI1 : qRI r n B := hI.1
  refine gM.of (by decide) rfl ?_
  intro p e s m args below meth c hC
  have hX := hC.1
  refine gx_iload_n hX 1 dX3_valueOf_0 rfl rfl ?_
  refine gx_callS (As := [.int x]) (st := []) hC (c_X3_isVariable l Y σ x) kX3_isVariable wm_RX3_115 rfl rfl rfl rfl dX3_valueOf_1 rfl (gx_ki fun r1 τ1 hq1 => ?_)
  obtain ⟨rfl, ⟨rfl, hb1⟩ | ⟨rfl, hb1⟩⟩ := hq1
  · obtain ⟨j, hj, rfl⟩ := qn10 (m := 9) rfl (by omega) hb1
    refine gx_if_ne_t (tgt := 15) hX dX3_valueOf_4 (by decide) (by decide) ?_
    refine gx_aload_n hX 0 dX3_valueOf_15 rfl rfl ?_
    refine gx_get hC 4 inlX3 wf_RX3_31 rfl hM.1 rfl rfl rfl rfl dX3_valueOf_16 rfl ?_
    refine gx_get hC 1 inlX1 wf_RX3_118 rfl hM.2.2.2.2.1.1 rfl rfl rfl rfl dX3_valueOf_19 rfl ?_
    refine gx_iload_n hX 1 dX3_valueOf_22 rfl rfl ?_
    refine gx_iald (i := j) hC hM.2.2.2.2.1.2.2.1 rfl rfl (by omega) rfl dX3_valueOf_23 rfl ?_
    refine gx_topi (b := (zk (qonl (qdf (qg r n) (nI j))))) (hG.2.1 j (by omega)) ?_
    have hol := qonl_le (qdf (qg r n) (nI j))
    rcases Nat.lt_or_ge (qonl (qdf (qg r n) (nI j))) 12 with hon | hon
    · have hol2 : (qonl (qdf (qg r n) (nI j))) < n := qonl_lt (g := qg r n) hn hon
      refine gx_topi (zk_lt hon) ?_
      refine gx_istore_n (lv' := [(2, .int (nI (qonl (qdf (qg r n) (nI j))))), (0, .ref nb), (1, .int (nI j))]) hX dX3_valueOf_24 rfl (by decide) rfl ?_
      refine gx_iload_n hX 0 dX3_valueOf_25 rfl rfl ?_
      refine gx_iconst (v := (-1)) hX dX3_valueOf_26 rfl (by decide) ?_
      refine gx_icmp_ne_t (tgt := 36) hX dX3_valueOf_27 (by decide) (nI_neg (by omega) (by decide)) ?_
      refine gx_aload_n hX 1 dX3_valueOf_36 rfl rfl ?_
      refine gx_iload_n hX 0 dX3_valueOf_37 rfl rfl ?_
      refine gx_callV (As := [.int (nI (qonl (qdf (qg r n) (nI j))))]) (st := []) hC (c_X3_freshValueOf l Y nb σ r n P q cn hM hA B hBB hI (qonl (qdf (qg r n) (nI j))) (by omega)) kX3_freshValueOf wm_RX3_112 rfl hM.1 rfl rfl rfl rfl rfl dX3_valueOf_38 rfl (gx_ki fun r38 τ38 hq38 => ?_)
      obtain ⟨rfl, rfl⟩ := hq38
      refine gx_iret hC dX3_valueOf_41 ?_
      have hz : qvalueOf (r, n, P, q, cn) (nI j) = (qvof (qg r n) r (qonl (qdf (qg r n) (nI j))), (r, n, P, q, cn)) := if_pos hb1
      rw [hz]
      exact ⟨qvof_y hon, hA⟩
    · refine gx_topi (zk_12 (by omega)) ?_
      refine gx_istore_n (lv' := [(2, .int (-1)), (0, .ref nb), (1, .int (nI j))]) hX dX3_valueOf_24 rfl (by decide) rfl ?_
      refine gx_iload_n hX 0 dX3_valueOf_25 rfl rfl ?_
      refine gx_iconst (v := (-1)) hX dX3_valueOf_26 rfl (by decide) ?_
      refine gx_icmp_ne_f (tgt := 36) hX dX3_valueOf_27 (by decide) rfl (by decide) ?_
      refine gx_sipush (v := (-10001)) hX dX3_valueOf_30 rfl (by decide) ?_
      refine gx_goto (pc' := 41) hX dX3_valueOf_33 (by decide) ?_
      refine gx_iret hC dX3_valueOf_41 ?_
      have hz : qvalueOf (r, n, P, q, cn) (nI j) = (qvof (qg r n) r (qonl (qdf (qg r n) (nI j))), (r, n, P, q, cn)) := if_pos hb1
      rw [hz]
      exact ⟨qvof_n (by omega), hA⟩
  · refine gx_if_ne_f (tgt := 15) hX dX3_valueOf_4 (by decide) rfl (by decide) ?_
    refine gx_aload_n hX 0 dX3_valueOf_7 rfl rfl ?_
    refine gx_sipush (v := (-10002)) hX dX3_valueOf_8 rfl (by decide) ?_
    refine gx_callV (As := [.int (-10002)]) (st := []) hC (c_X3_fail l Y nb σ hM (-10002) 0 (by omega) (by decide)) kX3_fail wm_RX3_42 rfl hM.1 rfl rfl rfl rfl rfl dX3_valueOf_11 rfl (gx_ki fun r11 τ11 hq11 => ?_)
    obtain ⟨rfl, rfl⟩ := hq11
    refine gx_iret hC dX3_valueOf_14 ?_
    have hz : qvalueOf (r, n, P, q, cn) x = (-10002, qfail (r, n, P, q, cn) 0) := if_neg hb1
    rw [hz]
    exact ⟨rfl, hA.fail hM⟩

set_option maxRecDepth 100000 in
set_option maxHeartbeats 4000000 in
theorem c_X3_lastRun (l : Launch) (Y : gL) (nb : Nat) (σ : gS) (r : Nat → Int32) (n : Nat) (P : Nat → Nat → Int32) (q : Nat) (cn : Nat → Int32) (hM : zLC Y nb) (hA : zA Y nb σ (r, n, P, q, cn)) (B : Nat) (hBB : B + 12 < 2 ^ 30) (hI : qAI (r, n, P, q, cn) B) (x : Int32) : gM l yX3_lastRun cX3_lastRun 2 (some .int) (gRm 1 22) Y [.ref nb, .int x] σ (gI fun z τ => (qlastRun (r, n, P, q, cn) x).1 = z ∧ zA Y nb τ (qlastRun (r, n, P, q, cn) x).2) := by
  have hH : zH Y nb σ P q cn := hA.1
  have hB : zB Y σ (gF Y nb 0) r n := hA.2.1
  have hL : zL Y σ (gF Y nb 0) r := hA.2.2.1
  have hG : zG Y σ (gF Y nb 4) (qg r n) := hA.2.2.2.1
  have hF : zM (σ.1 nb 5) (qF (qg r n) r) := hA.2.2.2.2
  have hc := hH.1.1 _ hM.2.1
  have hn : n ≤ 12 := hB.2.1
  have hgn : qn (qg r n) = n := rfl
  have hm := qm_le (qg r n)
  have hI1 : qRI r n B := hI.1
  obtain ⟨k4, hk4, he4, hl6, hlj⟩ := hL
  refine gM.of (by decide) rfl ?_
  intro p e s m args below meth c hC
  have hX := hC.1
  refine gx_iload_n hX 1 dX3_lastRun_0 rfl rfl ?_
  refine gx_if_ge (tgt := 12) hX dX3_lastRun_1 (by decide) rfl (fun h1 => ?_) (fun h1 => ?_)
  · obtain ⟨j, hj, rfl⟩ := nI_of (Int32.not_lt.mpr h1)
    refine gx_iload_n hX 1 dX3_lastRun_12 rfl rfl ?_
    refine gx_aload_n hX 0 dX3_lastRun_13 rfl rfl ?_
    refine gx_get hC 0 inlX3 wf_RX3_12 rfl hM.1 rfl rfl rfl rfl dX3_lastRun_14 rfl ?_
    refine gx_get hC 6 inlX2 wf_RX3_97 rfl hM.2.1 rfl rfl rfl rfl dX3_lastRun_17 rfl ?_
    refine gx_topi (b := (nI k4)) hl6 ?_
    refine gx_nat_ge (i := j) (j := k4) (tgt := 35) hX dX3_lastRun_20 (by decide) rfl rfl rfl (by omega) (by omega) (fun h20 => ?_) (fun h20 => ?_)
    · refine gx_sipush (v := (-10001)) hX dX3_lastRun_35 rfl (by decide) ?_
      refine gx_iret hC dX3_lastRun_38 ?_
      have hz : qlastRun (r, n, P, q, cn) (nI j) = (-10001, (r, n, P, q, cn)) := (if_neg (nI_pos hj)).trans (if_neg (show ¬ nI j < r 4 by rw [he4]; exact nI_nlt h20 hj))
      rw [hz]
      exact ⟨rfl, hA⟩
    · refine gx_aload_n hX 0 dX3_lastRun_23 rfl rfl ?_
      refine gx_get hC 0 inlX3 wf_RX3_12 rfl hM.1 rfl rfl rfl rfl dX3_lastRun_24 rfl ?_
      refine gx_get hC 5 inlX2 wf_RX3_106 rfl hM.2.1 rfl rfl rfl rfl dX3_lastRun_27 rfl ?_
      refine gx_iload_n hX 1 dX3_lastRun_30 rfl rfl ?_
      refine gx_iald (i := j) hC ((hM.2.2.2.2.2 _ hM.2.1).2.1) rfl rfl (by omega) rfl dX3_lastRun_31 rfl ?_
      refine gx_topi (b := (r (5 + j))) (hlj j h20) ?_
      refine gx_goto (pc' := 38) hX dX3_lastRun_32 (by decide) ?_
      refine gx_iret hC dX3_lastRun_38 ?_
      have hz : qlastRun (r, n, P, q, cn) (nI j) = (r (5 + (nI j).toNatClampNeg), (r, n, P, q, cn)) := (if_neg (nI_pos hj)).trans (if_pos (show nI j < r 4 by rw [he4]; exact nI_lt h20 (by omega)))
      rw [hz]
      exact ⟨by rw [nI_clamp hj], hA⟩
  · have h1n : x < 0 := Int32.not_le.mp h1
    refine gx_aload_n hX 0 dX3_lastRun_4 rfl rfl ?_
    refine gx_sipush (v := (-10002)) hX dX3_lastRun_5 rfl (by decide) ?_
    refine gx_callV (As := [.int (-10002)]) (st := []) hC (c_X3_fail l Y nb σ hM (-10002) 0 (by omega) (by decide)) kX3_fail wm_RX3_42 rfl hM.1 rfl rfl rfl rfl rfl dX3_lastRun_8 rfl (gx_ki fun r8 τ8 hq8 => ?_)
    obtain ⟨rfl, rfl⟩ := hq8
    refine gx_iret hC dX3_lastRun_11 ?_
    have hz : qlastRun (r, n, P, q, cn) x = (-10002, qfail (r, n, P, q, cn) 0) := if_pos h1n
    rw [hz]
    exact ⟨rfl, hA.fail hM⟩

set_option maxRecDepth 100000 in
set_option maxHeartbeats 4000000 in
theorem c_X3_runOrder (l : Launch) (Y : gL) (nb : Nat) (σ : gS) (r : Nat → Int32) (n : Nat) (P : Nat → Nat → Int32) (q : Nat) (cn : Nat → Int32) (hM : zLC Y nb) (hA : zA Y nb σ (r, n, P, q, cn)) (B : Nat) (hBB : B + 12 < 2 ^ 30) (hI : qAI (r, n, P, q, cn) B) (x : Int32) : gM l yX3_runOrder cX3_runOrder 2 (some .int) (gRm 1 22) Y [.ref nb, .int x] σ (gI fun z τ => (qrunOrder (r, n, P, q, cn) x).1 = z ∧ zA Y nb τ (qrunOrder (r, n, P, q, cn) x).2) := by
  have hH : zH Y nb σ P q cn := hA.1
  have hB : zB Y σ (gF Y nb 0) r n := hA.2.1
  have hL : zL Y σ (gF Y nb 0) r := hA.2.2.1
  have hG : zG Y σ (gF Y nb 4) (qg r n) := hA.2.2.2.1
  have hF : zM (σ.1 nb 5) (qF (qg r n) r) := hA.2.2.2.2
  have hc := hH.1.1 _ hM.2.1
  have hn : n ≤ 12 := hB.2.1
  have hgn : qn (qg r n) = n := rfl
  have hm := qm_le (qg r n)
  have hI1 : qRI r n B := hI.1
  refine gM.of (by decide) rfl ?_
  intro p e s m args below meth c hC
  have hX := hC.1
  refine gx_iload_n hX 1 dX3_runOrder_0 rfl rfl ?_
  refine gx_if_ge (tgt := 12) hX dX3_runOrder_1 (by decide) rfl (fun h1 => ?_) (fun h1 => ?_)
  · obtain ⟨j, hj, rfl⟩ := nI_of (Int32.not_lt.mpr h1)
    refine gx_iload_n hX 1 dX3_runOrder_12 rfl rfl ?_
    refine gx_aload_n hX 0 dX3_runOrder_13 rfl rfl ?_
    refine gx_get hC 4 inlX3 wf_RX3_31 rfl hM.1 rfl rfl rfl rfl dX3_runOrder_14 rfl ?_
    refine gx_get hC 6 inlX1 wf_RX3_139 rfl hM.2.2.2.2.1.1 rfl rfl rfl rfl dX3_runOrder_17 rfl ?_
    refine gx_topi (b := (nI (qm (qg r n)))) hG.2.2.2.2.2.1 ?_
    refine gx_nat_ge (i := j) (j := qm (qg r n)) (tgt := 35) hX dX3_runOrder_20 (by decide) rfl rfl rfl (by omega) (by omega) (fun h20 => ?_) (fun h20 => ?_)
    · refine gx_sipush (v := (-10001)) hX dX3_runOrder_35 rfl (by decide) ?_
      refine gx_iret hC dX3_runOrder_38 ?_
      have hz : qrunOrder (r, n, P, q, cn) (nI j) = (-10001, (r, n, P, q, cn)) := (if_neg (nI_pos hj)).trans (if_neg (nI_nlt h20 hj))
      rw [hz]
      exact ⟨rfl, hA⟩
    · refine gx_aload_n hX 0 dX3_runOrder_23 rfl rfl ?_
      refine gx_get hC 4 inlX3 wf_RX3_31 rfl hM.1 rfl rfl rfl rfl dX3_runOrder_24 rfl ?_
      refine gx_get hC 5 inlX1 wf_RX3_142 rfl hM.2.2.2.2.1.1 rfl rfl rfl rfl dX3_runOrder_27 rfl ?_
      refine gx_iload_n hX 1 dX3_runOrder_30 rfl rfl ?_
      refine gx_iald (i := j) hC hM.2.2.2.2.1.2.2.2.2.2.2 rfl rfl (by omega) rfl dX3_runOrder_31 rfl ?_
      refine gx_topi (b := (nI (qo (qg r n) j))) (hG.2.2.2.2.2.2 j h20) ?_
      refine gx_goto (pc' := 38) hX dX3_runOrder_32 (by decide) ?_
      refine gx_iret hC dX3_runOrder_38 ?_
      have hz : qrunOrder (r, n, P, q, cn) (nI j) = (nI (qo (qg r n) (nI j).toNatClampNeg), (r, n, P, q, cn)) := (if_neg (nI_pos hj)).trans (if_pos (nI_lt h20 (by omega)))
      rw [hz]
      exact ⟨by rw [nI_clamp hj], hA⟩
  · have h1n : x < 0 := Int32.not_le.mp h1
    refine gx_aload_n hX 0 dX3_runOrder_4 rfl rfl ?_
    refine gx_sipush (v := (-10002)) hX dX3_runOrder_5 rfl (by decide) ?_
    refine gx_callV (As := [.int (-10002)]) (st := []) hC (c_X3_fail l Y nb σ hM (-10002) 0 (by omega) (by decide)) kX3_fail wm_RX3_42 rfl hM.1 rfl rfl rfl rfl rfl dX3_runOrder_8 rfl (gx_ki fun r8 τ8 hq8 => ?_)
    obtain ⟨rfl, rfl⟩ := hq8
    refine gx_iret hC dX3_runOrder_11 ?_
    have hz : qrunOrder (r, n, P, q, cn) x = (-10002, qfail (r, n, P, q, cn) 0) := if_pos h1n
    rw [hz]
    exact ⟨rfl, hA.fail hM⟩

set_option maxRecDepth 100000 in
set_option maxHeartbeats 4000000 in
theorem c_J6_bitCount (l : Launch) (Y : gL) (σ : gS) (x : Int32) : gM l yJ6_bitCount_0f7a4 cJ6_bitCount_0f7a4 1 (some .int) (gRm 0 0) Y [.int x] σ (gI fun z τ => σ = τ ∧ zbc x = z) := by
  refine gM.of (by decide) rfl ?_
  intro p e s m args below meth c hC
  have hX := hC.1
  refine gx_iload_n hX 0 dJ6_bitCount_0f7a4_0 rfl rfl ?_
  refine gx_iload_n hX 0 dJ6_bitCount_0f7a4_1 rfl rfl ?_
  refine gx_iconst (v := 1) hX dJ6_bitCount_0f7a4_2 rfl (by decide) ?_
  refine gx_iushr hX dJ6_bitCount_0f7a4_3 rfl ?_
  refine gx_topi (b := (zus x 1)) rfl ?_
  refine gx_ldcw hC wk_RJ6_265 dJ6_bitCount_0f7a4_4 rfl ?_
  refine gx_iand hX dJ6_bitCount_0f7a4_7 rfl ?_
  refine gx_isub hX dJ6_bitCount_0f7a4_8 rfl ?_
  refine gx_topi (b := (zb1 x)) rfl ?_
  refine gx_istore_n (lv' := [(0, .int (zb1 x))]) hX dJ6_bitCount_0f7a4_9 rfl (by decide) rfl ?_
  refine gx_iload_n hX 0 dJ6_bitCount_0f7a4_10 rfl rfl ?_
  refine gx_ldcw hC wk_RJ6_266 dJ6_bitCount_0f7a4_11 rfl ?_
  refine gx_iand hX dJ6_bitCount_0f7a4_14 rfl ?_
  refine gx_iload_n hX 0 dJ6_bitCount_0f7a4_15 rfl rfl ?_
  refine gx_iconst (v := 2) hX dJ6_bitCount_0f7a4_16 rfl (by decide) ?_
  refine gx_iushr hX dJ6_bitCount_0f7a4_17 rfl ?_
  refine gx_topi (b := (zus (zb1 x) 2)) rfl ?_
  refine gx_ldcw hC wk_RJ6_266 dJ6_bitCount_0f7a4_18 rfl ?_
  refine gx_iand hX dJ6_bitCount_0f7a4_21 rfl ?_
  refine gx_iadd hX dJ6_bitCount_0f7a4_22 rfl ?_
  refine gx_topi (b := (zb2 (zb1 x))) rfl ?_
  refine gx_istore_n (lv' := [(0, .int (zb2 (zb1 x)))]) hX dJ6_bitCount_0f7a4_23 rfl (by decide) rfl ?_
  refine gx_iload_n hX 0 dJ6_bitCount_0f7a4_24 rfl rfl ?_
  refine gx_iload_n hX 0 dJ6_bitCount_0f7a4_25 rfl rfl ?_
  refine gx_iconst (v := 4) hX dJ6_bitCount_0f7a4_26 rfl (by decide) ?_
  refine gx_iushr hX dJ6_bitCount_0f7a4_27 rfl ?_
  refine gx_topi (b := (zus (zb2 (zb1 x)) 4)) rfl ?_
  refine gx_iadd hX dJ6_bitCount_0f7a4_28 rfl ?_
  refine gx_ldcw hC wk_RJ6_267 dJ6_bitCount_0f7a4_29 rfl ?_
  refine gx_iand hX dJ6_bitCount_0f7a4_32 rfl ?_
  refine gx_topi (b := (zb3 (zb2 (zb1 x)))) rfl ?_
  refine gx_istore_n (lv' := [(0, .int (zb3 (zb2 (zb1 x))))]) hX dJ6_bitCount_0f7a4_33 rfl (by decide) rfl ?_
  refine gx_iload_n hX 0 dJ6_bitCount_0f7a4_34 rfl rfl ?_
  refine gx_iload_n hX 0 dJ6_bitCount_0f7a4_35 rfl rfl ?_
  refine gx_bipush (v := 8) hX dJ6_bitCount_0f7a4_36 rfl (by decide) ?_
  refine gx_iushr hX dJ6_bitCount_0f7a4_38 rfl ?_
  refine gx_topi (b := (zus (zb3 (zb2 (zb1 x))) 8)) rfl ?_
  refine gx_iadd hX dJ6_bitCount_0f7a4_39 rfl ?_
  refine gx_topi (b := (zb4 (zb3 (zb2 (zb1 x))))) rfl ?_
  refine gx_istore_n (lv' := [(0, .int (zb4 (zb3 (zb2 (zb1 x)))))]) hX dJ6_bitCount_0f7a4_40 rfl (by decide) rfl ?_
  refine gx_iload_n hX 0 dJ6_bitCount_0f7a4_41 rfl rfl ?_
  refine gx_iload_n hX 0 dJ6_bitCount_0f7a4_42 rfl rfl ?_
  refine gx_bipush (v := 16) hX dJ6_bitCount_0f7a4_43 rfl (by decide) ?_
  refine gx_iushr hX dJ6_bitCount_0f7a4_45 rfl ?_
  refine gx_topi (b := (zus (zb4 (zb3 (zb2 (zb1 x)))) 16)) rfl ?_
  refine gx_iadd hX dJ6_bitCount_0f7a4_46 rfl ?_
  refine gx_topi (b := (zb5 (zb4 (zb3 (zb2 (zb1 x)))))) rfl ?_
  refine gx_istore_n (lv' := [(0, .int (zb5 (zb4 (zb3 (zb2 (zb1 x))))))]) hX dJ6_bitCount_0f7a4_47 rfl (by decide) rfl ?_
  refine gx_iload_n hX 0 dJ6_bitCount_0f7a4_48 rfl rfl ?_
  refine gx_bipush (v := 63) hX dJ6_bitCount_0f7a4_49 rfl (by decide) ?_
  refine gx_iand hX dJ6_bitCount_0f7a4_51 rfl ?_
  exact gx_iret hC dJ6_bitCount_0f7a4_52 (⟨rfl, rfl⟩)

set_option maxRecDepth 100000 in
set_option maxHeartbeats 4000000 in
theorem c_X3_staleCount (l : Launch) (Y : gL) (nb : Nat) (σ : gS) (r : Nat → Int32) (n : Nat) (P : Nat → Nat → Int32) (q : Nat) (cn : Nat → Int32) (hM : zLC Y nb) (hA : zA Y nb σ (r, n, P, q, cn)) (B : Nat) (hBB : B + 12 < 2 ^ 30) (hI : qAI (r, n, P, q, cn) B) : gM l yX3_staleCount cX3_staleCount 1 (some .int) (gRm 1 20) Y [.ref nb] σ (gI fun z τ => (qstaleCount (r, n, P, q, cn)).1 = z ∧ zA Y nb τ (qstaleCount (r, n, P, q, cn)).2) := by
  have hH : zH Y nb σ P q cn := hA.1
  have hB : zB Y σ (gF Y nb 0) r n := hA.2.1
  have hL : zL Y σ (gF Y nb 0) r := hA.2.2.1
  have hG : zG Y σ (gF Y nb 4) (qg r n) := hA.2.2.2.1
  have hF : zM (σ.1 nb 5) (qF (qg r n) r) := hA.2.2.2.2
  have hc := hH.1.1 _ hM.2.1
  have hn : n ≤ 12 := hB.2.1
  have hgn : qn (qg r n) = n := rfl
  have hm := qm_le (qg r n)
  have hI1 : qRI r n B := hI.1
  refine gM.of (by decide) rfl ?_
  intro p e s m args below meth c hC
  have hX := hC.1
  refine gx_aload_n hX 0 dX3_staleCount_0 rfl rfl ?_
  refine gx_get hC 4 inlX3 wf_RX3_31 rfl hM.1 rfl rfl rfl rfl dX3_staleCount_1 rfl ?_
  refine gx_get hC 6 inlX1 wf_RX3_139 rfl hM.2.2.2.2.1.1 rfl rfl rfl rfl dX3_staleCount_4 rfl ?_
  refine gx_topi (b := (nI (qm (qg r n)))) hG.2.2.2.2.2.1 ?_
  refine gx_aload_n hX 0 dX3_staleCount_7 rfl rfl ?_
  refine gx_get hC 5 inlX3 wf_RX3_35 rfl hM.1 rfl rfl rfl rfl dX3_staleCount_8 rfl ?_
  refine gx_callS (As := [.int (σ.1 nb 5)]) (st := [.int (nI (qm (qg r n)))]) hC (c_J6_bitCount l Y σ (σ.1 nb 5)) kJ6_bitCount_0f7a4 wm_RX3_145 rfl rfl rfl rfl dX3_staleCount_11 rfl (gx_ki fun r11 τ11 hq11 => ?_)
  obtain ⟨rfl, rfl⟩ := hq11
  refine gx_topi (b := (nI (qcnt (qF (qg r n) r) 12))) (zbc_F hF (zF12 (g := qg r n) hn)) ?_
  refine gx_isubN (i := qm (qg r n)) (j := qcnt (qF (qg r n) r) 12) hX dX3_staleCount_14 rfl rfl rfl (zst_le (g := qg r n) hn) ?_
  exact gx_iret hC dX3_staleCount_15 (⟨congrArg nI (zstale (g := qg r n) hn), hA⟩)

set_option maxRecDepth 100000 in
set_option maxHeartbeats 4000000 in
theorem c_X3_errorCount (l : Launch) (Y : gL) (nb : Nat) (σ : gS) (r : Nat → Int32) (n : Nat) (P : Nat → Nat → Int32) (q : Nat) (cn : Nat → Int32) (hM : zLC Y nb) (hA : zA Y nb σ (r, n, P, q, cn)) (B : Nat) (hBB : B + 12 < 2 ^ 30) (hI : qAI (r, n, P, q, cn) B) (x : Int32) : gM l yX3_errorCount cX3_errorCount 2 (some .int) (gRm 1 22) Y [.ref nb, .int x] σ (gI fun z τ => (qerrorCount (r, n, P, q, cn) x).1 = z ∧ zA Y nb τ (qerrorCount (r, n, P, q, cn) x).2) := by
  have hH : zH Y nb σ P q cn := hA.1
  have hB : zB Y σ (gF Y nb 0) r n := hA.2.1
  have hL : zL Y σ (gF Y nb 0) r := hA.2.2.1
  have hG : zG Y σ (gF Y nb 4) (qg r n) := hA.2.2.2.1
  have hF : zM (σ.1 nb 5) (qF (qg r n) r) := hA.2.2.2.2
  have hc := hH.1.1 _ hM.2.1
  have hn : n ≤ 12 := hB.2.1
  have hgn : qn (qg r n) = n := rfl
  have hm := qm_le (qg r n)
  have hI1 : qRI r n B := hI.1
  refine gM.of (by decide) rfl ?_
  intro p e s m args below meth c hC
  have hX := hC.1
  refine gx_iload_n hX 1 dX3_errorCount_0 rfl rfl ?_
  refine gx_if_lt (tgt := 18) hX dX3_errorCount_1 (by decide) rfl (fun h1 => ?_) (fun h1 => ?_)
  · refine gx_aload_n hX 0 dX3_errorCount_18 rfl rfl ?_
    refine gx_sipush (v := (-10002)) hX dX3_errorCount_19 rfl (by decide) ?_
    refine gx_callV (As := [.int (-10002)]) (st := []) hC (c_X3_fail l Y nb σ hM (-10002) 0 (by omega) (by decide)) kX3_fail wm_RX3_42 rfl hM.1 rfl rfl rfl rfl rfl dX3_errorCount_22 rfl (gx_ki fun r22 τ22 hq22 => ?_)
    obtain ⟨rfl, rfl⟩ := hq22
    refine gx_iret hC dX3_errorCount_25 ?_
    have hz : qerrorCount (r, n, P, q, cn) x = (-10002, qfail (r, n, P, q, cn) 0) := if_neg (fun z => z.1 h1)
    rw [hz]
    exact ⟨rfl, hA.fail hM⟩
  · obtain ⟨j, hj, rfl⟩ := nI_of h1
    refine gx_iload_n hX 1 dX3_errorCount_4 rfl rfl ?_
    refine gx_iconst (v := 3) hX dX3_errorCount_5 rfl (by decide) ?_
    refine gx_nat_ge (i := j) (j := 3) (tgt := 18) hX dX3_errorCount_6 (by decide) rfl rfl rfl (by omega) (by omega) (fun h6 => ?_) (fun h6 => ?_)
    · refine gx_aload_n hX 0 dX3_errorCount_18 rfl rfl ?_
      refine gx_sipush (v := (-10002)) hX dX3_errorCount_19 rfl (by decide) ?_
      refine gx_callV (As := [.int (-10002)]) (st := []) hC (c_X3_fail l Y nb σ hM (-10002) 0 (by omega) (by decide)) kX3_fail wm_RX3_42 rfl hM.1 rfl rfl rfl rfl rfl dX3_errorCount_22 rfl (gx_ki fun r22 τ22 hq22 => ?_)
      obtain ⟨rfl, rfl⟩ := hq22
      refine gx_iret hC dX3_errorCount_25 ?_
      have hz : qerrorCount (r, n, P, q, cn) (nI j) = (-10002, qfail (r, n, P, q, cn) 0) := if_neg (fun z => z.2 (nI_lt (a := 2) (b := j) (by omega) (by omega)))
      rw [hz]
      exact ⟨rfl, hA.fail hM⟩
    · refine gx_aload_n hX 0 dX3_errorCount_9 rfl rfl ?_
      refine gx_get hC 3 inlX3 wf_RX3_24 rfl hM.1 rfl rfl rfl rfl dX3_errorCount_10 rfl ?_
      refine gx_iload_n hX 1 dX3_errorCount_13 rfl rfl ?_
      refine gx_iald (i := j) hC hM.2.2.2.1 rfl rfl (by omega) rfl dX3_errorCount_14 rfl ?_
      refine gx_topi (b := (cn j)) (congrFun hH.2.2 j) ?_
      refine gx_goto (pc' := 25) hX dX3_errorCount_15 (by decide) ?_
      refine gx_iret hC dX3_errorCount_25 ?_
      have hz : qerrorCount (r, n, P, q, cn) (nI j) = (cn (nI j).toNatClampNeg, (r, n, P, q, cn)) := if_pos ⟨nI_pos hj, nI_nlt (a := 2) (b := j) (by omega) (by omega)⟩
      rw [hz]
      exact ⟨by rw [nI_clamp (by omega)], hA⟩

set_option maxRecDepth 100000 in
set_option maxHeartbeats 4000000 in
theorem c_X3_digest (l : Launch) (Y : gL) (nb : Nat) (σ : gS) (r : Nat → Int32) (n : Nat) (P : Nat → Nat → Int32) (q : Nat) (cn : Nat → Int32) (hM : zLC Y nb) (hA : zA Y nb σ (r, n, P, q, cn)) (B : Nat) (hBB : B + 12 < 2 ^ 30) (hI : qAI (r, n, P, q, cn) B) : gM l yX3_digest cX3_digest 4 (some .long) (gRm 4 90) Y [.ref nb] σ (gJ fun z τ => qdigest (r, n, P, q, cn) = z ∧ zA Y nb τ (r, n, P, q, cn)) := by
  have hH : zH Y nb σ P q cn := hA.1
  have hB : zB Y σ (gF Y nb 0) r n := hA.2.1
  have hL : zL Y σ (gF Y nb 0) r := hA.2.2.1
  have hG : zG Y σ (gF Y nb 4) (qg r n) := hA.2.2.2.1
  have hF : zM (σ.1 nb 5) (qF (qg r n) r) := hA.2.2.2.2
  have hc := hH.1.1 _ hM.2.1
  have hn : n ≤ 12 := hB.2.1
  have hgn : qn (qg r n) = n := rfl
  have hm := qm_le (qg r n)
  have hI1 : qRI r n B := hI.1
  have hcn := hH.2.2
  obtain ⟨k4, hk4, he4, hl6, hlj⟩ := hL
  refine gM.of (by decide) rfl ?_
  intro p e s m args below meth c hC
  have hX := hC.1
  refine gx_ldc2 hC wk_RX3_157 dX3_digest_0 rfl ?_
  refine gx_lstore_n (lv' := [(1, .long 11872), (0, .ref nb)]) hX dX3_digest_3 rfl (by decide) rfl ?_
  refine gx_iconst (v := 0) hX dX3_digest_4 rfl (by decide) ?_
  refine gx_istore_n (lv' := [(3, .int 0), (1, .long 11872), (0, .ref nb)]) hX dX3_digest_5 rfl (by decide) rfl ?_
  have L6 : ∀ (k6 : Nat) (k : Nat) (x : Int64), 3 - k < k6 → (k ≤ 3) → ((qhs cn k 11872) = x) → gG p l e (gRm 4 90) s m args below meth c Y (gJ fun z τ => qdigest (r, n, P, q, cn) = z ∧ zA Y nb τ (r, n, P, q, cn)) σ 6 [(0, .ref nb), (1, .long x), (3, .int (nI k))] [] := by
    intro k6
    induction k6 with
    | zero => intro k x hk6; exact absurd hk6 (Nat.not_lt_zero _)
    | succ k6 ih6 =>
      intro k x hk6 hk hx
      refine gx_iload_n hX 2 dX3_digest_6 rfl rfl ?_
      refine gx_iconst (v := 3) hX dX3_digest_7 rfl (by decide) ?_
      refine gx_nat_ge (i := k) (j := 3) (tgt := 29) hX dX3_digest_8 (by decide) rfl rfl rfl (by omega) (by omega) (fun h8 => ?_) (fun h8 => ?_)
      · have hke : k = 3 := by omega
        rw [hke] at hx
        obtain rfl := hx
        refine gx_lload_n hX 1 dX3_digest_29 rfl rfl ?_
        refine gx_aload_n hX 0 dX3_digest_30 rfl rfl ?_
        refine gx_get hC 2 inlX3 wf_RX3_20 rfl hM.1 rfl rfl rfl rfl dX3_digest_31 rfl ?_
        refine gx_topi (b := (nI q)) hH.2.1.2.1 ?_
        refine gx_i2l hX dX3_digest_34 rfl ?_
        refine gx_callS (As := [.long (qhs cn 3 11872), .long (((nI q) : Int32).toInt64)]) (st := []) hC (c_X3_mix l Y σ (qhs cn 3 11872) (nI q)) kX3_mix wm_RX3_159 rfl rfl rfl rfl dX3_digest_35 rfl (gx_kj fun r35 τ35 hq35 => ?_)
        obtain ⟨rfl, rfl⟩ := hq35
        refine gx_lstore_n (lv' := [(1, .long (qmix (qhs cn 3 11872) (nI q))), (0, .ref nb), (3, .int (nI k))]) hX dX3_digest_38 rfl (by decide) rfl ?_
        refine gx_lload_n hX 0 dX3_digest_39 rfl rfl ?_
        refine gx_aload_n hX 1 dX3_digest_40 rfl rfl ?_
        refine gx_get hC 0 inlX3 wf_RX3_12 rfl hM.1 rfl rfl rfl rfl dX3_digest_41 rfl ?_
        refine gx_get hC 2 inlX2 wf_RX3_88 rfl hM.2.1 rfl rfl rfl rfl dX3_digest_44 rfl ?_
        refine gx_topi (b := (r 1)) hB.2.2.2.1 ?_
        refine gx_i2l hX dX3_digest_47 rfl ?_
        refine gx_callS (As := [.long (qmix (qhs cn 3 11872) (nI q)), .long (((r 1) : Int32).toInt64)]) (st := []) hC (c_X3_mix l Y σ (qmix (qhs cn 3 11872) (nI q)) (r 1)) kX3_mix wm_RX3_159 rfl rfl rfl rfl dX3_digest_48 rfl (gx_kj fun r48 τ48 hq48 => ?_)
        obtain ⟨rfl, rfl⟩ := hq48
        refine gx_lstore_n (lv' := [(1, .long (qmix (qmix (qhs cn 3 11872) (nI q)) (r 1))), (0, .ref nb), (3, .int (nI k))]) hX dX3_digest_51 rfl (by decide) rfl ?_
        refine gx_lload_n hX 0 dX3_digest_52 rfl rfl ?_
        refine gx_aload_n hX 1 dX3_digest_53 rfl rfl ?_
        refine gx_get hC 0 inlX3 wf_RX3_12 rfl hM.1 rfl rfl rfl rfl dX3_digest_54 rfl ?_
        refine gx_get hC 3 inlX2 wf_RX3_127 rfl hM.2.1 rfl rfl rfl rfl dX3_digest_57 rfl ?_
        refine gx_topi (b := (r 3)) hB.2.2.2.2.1 ?_
        refine gx_i2l hX dX3_digest_60 rfl ?_
        refine gx_callS (As := [.long (qmix (qmix (qhs cn 3 11872) (nI q)) (r 1)), .long (((r 3) : Int32).toInt64)]) (st := []) hC (c_X3_mix l Y σ (qmix (qmix (qhs cn 3 11872) (nI q)) (r 1)) (r 3)) kX3_mix wm_RX3_159 rfl rfl rfl rfl dX3_digest_61 rfl (gx_kj fun r61 τ61 hq61 => ?_)
        obtain ⟨rfl, rfl⟩ := hq61
        refine gx_lstore_n (lv' := [(1, .long (qmix (qmix (qmix (qhs cn 3 11872) (nI q)) (r 1)) (r 3))), (0, .ref nb), (3, .int (nI k))]) hX dX3_digest_64 rfl (by decide) rfl ?_
        refine gx_lload_n hX 0 dX3_digest_65 rfl rfl ?_
        refine gx_aload_n hX 1 dX3_digest_66 rfl rfl ?_
        refine gx_get hC 0 inlX3 wf_RX3_12 rfl hM.1 rfl rfl rfl rfl dX3_digest_67 rfl ?_
        refine gx_get hC 6 inlX2 wf_RX3_97 rfl hM.2.1 rfl rfl rfl rfl dX3_digest_70 rfl ?_
        refine gx_topi (b := (r 4)) (hl6.trans he4.symm) ?_
        refine gx_i2l hX dX3_digest_73 rfl ?_
        refine gx_callS (As := [.long (qmix (qmix (qmix (qhs cn 3 11872) (nI q)) (r 1)) (r 3)), .long (((r 4) : Int32).toInt64)]) (st := []) hC (c_X3_mix l Y σ (qmix (qmix (qmix (qhs cn 3 11872) (nI q)) (r 1)) (r 3)) (r 4)) kX3_mix wm_RX3_159 rfl rfl rfl rfl dX3_digest_74 rfl (gx_kj fun r74 τ74 hq74 => ?_)
        obtain ⟨rfl, rfl⟩ := hq74
        refine gx_lstore_n (lv' := [(1, .long (qmix (qmix (qmix (qmix (qhs cn 3 11872) (nI q)) (r 1)) (r 3)) (r 4))), (0, .ref nb), (3, .int (nI k))]) hX dX3_digest_77 rfl (by decide) rfl ?_
        refine gx_iconst (v := 0) hX dX3_digest_78 rfl (by decide) ?_
        refine gx_istore_n (lv' := [(3, .int 0), (1, .long (qmix (qmix (qmix (qmix (qhs cn 3 11872) (nI q)) (r 1)) (r 3)) (r 4))), (0, .ref nb)]) hX dX3_digest_79 rfl (by decide) rfl ?_
        have L80 : ∀ (k80 : Nat) (k : Nat) (x : Int64), k4 - k < k80 → (k ≤ k4) → ((qhs (fun k => r (5 + k)) k (qmix (qmix (qmix (qmix (qhs cn 3 11872) (nI q)) (r 1)) (r 3)) (r 4))) = x) → gG p l e (gRm 4 90) s m args below meth c Y (gJ fun z τ => qdigest (r, n, P, q, cn) = z ∧ zA Y nb τ (r, n, P, q, cn)) σ 80 [(0, .ref nb), (1, .long x), (3, .int (nI k))] [] := by
          intro k80
          induction k80 with
          | zero => intro k x hk80; exact absurd hk80 (Nat.not_lt_zero _)
          | succ k80 ih80 =>
            intro k x hk80 hk hx
            refine gx_iload_n hX 2 dX3_digest_80 rfl rfl ?_
            refine gx_aload_n hX 0 dX3_digest_81 rfl rfl ?_
            refine gx_get hC 0 inlX3 wf_RX3_12 rfl hM.1 rfl rfl rfl rfl dX3_digest_82 rfl ?_
            refine gx_get hC 6 inlX2 wf_RX3_97 rfl hM.2.1 rfl rfl rfl rfl dX3_digest_85 rfl ?_
            refine gx_topi (b := (nI k4)) hl6 ?_
            refine gx_nat_ge (i := k) (j := k4) (tgt := 112) hX dX3_digest_88 (by decide) rfl rfl rfl (by omega) (by omega) (fun h88 => ?_) (fun h88 => ?_)
            · have hke : k = k4 := by omega
              rw [hke] at hx
              obtain rfl := hx
              refine gx_lload_n hX 1 dX3_digest_112 rfl rfl ?_
              refine gx_aload_n hX 0 dX3_digest_113 rfl rfl ?_
              refine gx_get hC 0 inlX3 wf_RX3_12 rfl hM.1 rfl rfl rfl rfl dX3_digest_114 rfl ?_
              refine gx_get hC 1 inlX2 wf_RX3_46 rfl hM.2.1 rfl rfl rfl rfl dX3_digest_117 rfl ?_
              refine gx_topi (b := (r 0)) (hB.2.2.1.trans hB.1.symm) ?_
              refine gx_i2l hX dX3_digest_120 rfl ?_
              refine gx_callS (As := [.long (qhs (fun k => r (5 + k)) k4 (qmix (qmix (qmix (qmix (qhs cn 3 11872) (nI q)) (r 1)) (r 3)) (r 4))), .long (((r 0) : Int32).toInt64)]) (st := []) hC (c_X3_mix l Y σ (qhs (fun k => r (5 + k)) k4 (qmix (qmix (qmix (qmix (qhs cn 3 11872) (nI q)) (r 1)) (r 3)) (r 4))) (r 0)) kX3_mix wm_RX3_159 rfl rfl rfl rfl dX3_digest_121 rfl (gx_kj fun r121 τ121 hq121 => ?_)
              obtain ⟨rfl, rfl⟩ := hq121
              refine gx_lstore_n (lv' := [(1, .long (qmix (qhs (fun k => r (5 + k)) k4 (qmix (qmix (qmix (qmix (qhs cn 3 11872) (nI q)) (r 1)) (r 3)) (r 4))) (r 0))), (0, .ref nb), (3, .int (nI k))]) hX dX3_digest_124 rfl (by decide) rfl ?_
              refine gx_iconst (v := 0) hX dX3_digest_125 rfl (by decide) ?_
              refine gx_istore_n (lv' := [(3, .int 0), (1, .long (qmix (qhs (fun k => r (5 + k)) k4 (qmix (qmix (qmix (qmix (qhs cn 3 11872) (nI q)) (r 1)) (r 3)) (r 4))) (r 0))), (0, .ref nb)]) hX dX3_digest_126 rfl (by decide) rfl ?_
              have L127 : ∀ (k127 : Nat) (k : Nat) (x : Int64), n - k < k127 → (k ≤ n) → ((qit (fun i h => qhc (qg r n) r i h) k (qmix (qhs (fun k => r (5 + k)) k4 (qmix (qmix (qmix (qmix (qhs cn 3 11872) (nI q)) (r 1)) (r 3)) (r 4))) (r 0))) = x) → gG p l e (gRm 4 90) s m args below meth c Y (gJ fun z τ => qdigest (r, n, P, q, cn) = z ∧ zA Y nb τ (r, n, P, q, cn)) σ 127 [(0, .ref nb), (1, .long x), (3, .int (nI k))] [] := by
                intro k127
                induction k127 with
                | zero => intro k x hk127; exact absurd hk127 (Nat.not_lt_zero _)
                | succ k127 ih127 =>
                  intro k x hk127 hk hx
                  refine gx_iload_n hX 2 dX3_digest_127 rfl rfl ?_
                  refine gx_aload_n hX 0 dX3_digest_128 rfl rfl ?_
                  refine gx_get hC 0 inlX3 wf_RX3_12 rfl hM.1 rfl rfl rfl rfl dX3_digest_129 rfl ?_
                  refine gx_get hC 1 inlX2 wf_RX3_46 rfl hM.2.1 rfl rfl rfl rfl dX3_digest_132 rfl ?_
                  refine gx_topi (b := (nI n)) hB.2.2.1 ?_
                  refine gx_nat_ge (i := k) (j := n) (tgt := 151) hX dX3_digest_135 (by decide) rfl rfl rfl (by omega) (by omega) (fun h135 => ?_) (fun h135 => ?_)
                  · have hke : k = n := by omega
                    rw [hke] at hx
                    obtain rfl := hx
                    refine gx_lload_n hX 1 dX3_digest_151 rfl rfl ?_
                    refine gx_aload_n hX 0 dX3_digest_152 rfl rfl ?_
                    refine gx_get hC 4 inlX3 wf_RX3_31 rfl hM.1 rfl rfl rfl rfl dX3_digest_153 rfl ?_
                    refine gx_get hC 6 inlX1 wf_RX3_139 rfl hM.2.2.2.2.1.1 rfl rfl rfl rfl dX3_digest_156 rfl ?_
                    refine gx_topi (b := (nI (qm (qg r n)))) hG.2.2.2.2.2.1 ?_
                    refine gx_i2l hX dX3_digest_159 rfl ?_
                    refine gx_callS (As := [.long (qit (fun i h => qhc (qg r n) r i h) n (qmix (qhs (fun k => r (5 + k)) k4 (qmix (qmix (qmix (qmix (qhs cn 3 11872) (nI q)) (r 1)) (r 3)) (r 4))) (r 0))), .long (((nI (qm (qg r n))) : Int32).toInt64)]) (st := []) hC (c_X3_mix l Y σ (qit (fun i h => qhc (qg r n) r i h) n (qmix (qhs (fun k => r (5 + k)) k4 (qmix (qmix (qmix (qmix (qhs cn 3 11872) (nI q)) (r 1)) (r 3)) (r 4))) (r 0))) (nI (qm (qg r n)))) kX3_mix wm_RX3_159 rfl rfl rfl rfl dX3_digest_160 rfl (gx_kj fun r160 τ160 hq160 => ?_)
                    obtain ⟨rfl, rfl⟩ := hq160
                    refine gx_lstore_n (lv' := [(1, .long (qmix (qit (fun i h => qhc (qg r n) r i h) n (qmix (qhs (fun k => r (5 + k)) k4 (qmix (qmix (qmix (qmix (qhs cn 3 11872) (nI q)) (r 1)) (r 3)) (r 4))) (r 0))) (nI (qm (qg r n))))), (0, .ref nb), (3, .int (nI k))]) hX dX3_digest_163 rfl (by decide) rfl ?_
                    refine gx_iconst (v := 0) hX dX3_digest_164 rfl (by decide) ?_
                    refine gx_istore_n (lv' := [(3, .int 0), (1, .long (qmix (qit (fun i h => qhc (qg r n) r i h) n (qmix (qhs (fun k => r (5 + k)) k4 (qmix (qmix (qmix (qmix (qhs cn 3 11872) (nI q)) (r 1)) (r 3)) (r 4))) (r 0))) (nI (qm (qg r n))))), (0, .ref nb)]) hX dX3_digest_165 rfl (by decide) rfl ?_
                    have L166 : ∀ (k166 : Nat) (k : Nat) (x : Int64), (qm (qg r n)) - k < k166 → (k ≤ (qm (qg r n))) → ((qhs (fun k => nI (qo (qg r n) k)) k (qmix (qit (fun i h => qhc (qg r n) r i h) n (qmix (qhs (fun k => r (5 + k)) k4 (qmix (qmix (qmix (qmix (qhs cn 3 11872) (nI q)) (r 1)) (r 3)) (r 4))) (r 0))) (nI (qm (qg r n))))) = x) → gG p l e (gRm 4 90) s m args below meth c Y (gJ fun z τ => qdigest (r, n, P, q, cn) = z ∧ zA Y nb τ (r, n, P, q, cn)) σ 166 [(0, .ref nb), (1, .long x), (3, .int (nI k))] [] := by
                      intro k166
                      induction k166 with
                      | zero => intro k x hk166; exact absurd hk166 (Nat.not_lt_zero _)
                      | succ k166 ih166 =>
                        intro k x hk166 hk hx
                        refine gx_iload_n hX 2 dX3_digest_166 rfl rfl ?_
                        refine gx_aload_n hX 0 dX3_digest_167 rfl rfl ?_
                        refine gx_get hC 4 inlX3 wf_RX3_31 rfl hM.1 rfl rfl rfl rfl dX3_digest_168 rfl ?_
                        refine gx_get hC 6 inlX1 wf_RX3_139 rfl hM.2.2.2.2.1.1 rfl rfl rfl rfl dX3_digest_171 rfl ?_
                        refine gx_topi (b := (nI (qm (qg r n)))) hG.2.2.2.2.2.1 ?_
                        refine gx_nat_ge (i := k) (j := qm (qg r n)) (tgt := 198) hX dX3_digest_174 (by decide) rfl rfl rfl (by omega) (by omega) (fun h174 => ?_) (fun h174 => ?_)
                        · have hke : k = (qm (qg r n)) := by omega
                          rw [hke] at hx
                          obtain rfl := hx
                          refine gx_lload_n hX 1 dX3_digest_198 rfl rfl ?_
                          exact gx_lret hC dX3_digest_199 (⟨by unfold qdigest; dsimp only; rw [he4, nI_clamp (by omega)], hA⟩)
                        · refine gx_lload_n hX 1 dX3_digest_177 rfl rfl ?_
                          refine gx_aload_n hX 0 dX3_digest_178 rfl rfl ?_
                          refine gx_get hC 4 inlX3 wf_RX3_31 rfl hM.1 rfl rfl rfl rfl dX3_digest_179 rfl ?_
                          refine gx_get hC 5 inlX1 wf_RX3_142 rfl hM.2.2.2.2.1.1 rfl rfl rfl rfl dX3_digest_182 rfl ?_
                          refine gx_iload_n hX 2 dX3_digest_185 rfl rfl ?_
                          refine gx_iald (i := k) hC hM.2.2.2.2.1.2.2.2.2.2.2 rfl rfl (by omega) rfl dX3_digest_186 rfl ?_
                          refine gx_topi (b := (nI (qo (qg r n) k))) (hG.2.2.2.2.2.2 k h174) ?_
                          refine gx_i2l hX dX3_digest_187 rfl ?_
                          refine gx_callS (As := [.long x, .long (((nI (qo (qg r n) k)) : Int32).toInt64)]) (st := []) hC (c_X3_mix l Y σ x (nI (qo (qg r n) k))) kX3_mix wm_RX3_159 rfl rfl rfl rfl dX3_digest_188 rfl (gx_kj fun r188 τ188 hq188 => ?_)
                          obtain ⟨rfl, rfl⟩ := hq188
                          refine gx_lstore_n (lv' := [(1, .long (qmix x (nI (qo (qg r n) k)))), (0, .ref nb), (3, .int (nI k))]) hX dX3_digest_191 rfl (by decide) rfl ?_
                          refine gx_iinc (w := (nI (k + 1))) (lv' := [(3, .int (nI (k + 1))), (1, .long (qmix x (nI (qo (qg r n) k)))), (0, .ref nb)]) hX 2 dX3_digest_192 rfl rfl (nI_add _ _) (by decide) rfl ?_
                          refine gx_goto (pc' := 166) hX dX3_digest_195 (by decide) ?_
                          exact gx_sub [2, 1, 0] rfl (ih166 (k + 1) (qmix x (nI (qo (qg r n) k))) (by omega) (by omega) (by rw [← hx]; rfl))
                    exact gx_sub [2, 1, 0] rfl (L166 ((qm (qg r n)) + 1) 0 (qmix (qit (fun i h => qhc (qg r n) r i h) n (qmix (qhs (fun k => r (5 + k)) k4 (qmix (qmix (qmix (qmix (qhs cn 3 11872) (nI q)) (r 1)) (r 3)) (r 4))) (r 0))) (nI (qm (qg r n)))) (by omega) (by omega) rfl)
                  · refine gx_aload_n hX 0 dX3_digest_138 rfl rfl ?_
                    refine gx_lload_n hX 1 dX3_digest_139 rfl rfl ?_
                    refine gx_iload_n hX 2 dX3_digest_140 rfl rfl ?_
                    refine gx_callV (As := [.long x, .int (nI k)]) (st := []) hC (c_X3_mixCell l Y nb σ r n P q cn hM hA B hBB hI x k (by omega)) kX3_mixCell wm_RX3_163 rfl hM.1 rfl rfl rfl rfl rfl dX3_digest_141 rfl (gx_kj fun r141 τ141 hq141 => ?_)
                    obtain ⟨rfl, rfl⟩ := hq141
                    refine gx_lstore_n (lv' := [(1, .long (qhc (qg r n) r k x)), (0, .ref nb), (3, .int (nI k))]) hX dX3_digest_144 rfl (by decide) rfl ?_
                    refine gx_iinc (w := (nI (k + 1))) (lv' := [(3, .int (nI (k + 1))), (1, .long (qhc (qg r n) r k x)), (0, .ref nb)]) hX 2 dX3_digest_145 rfl rfl (nI_add _ _) (by decide) rfl ?_
                    refine gx_goto (pc' := 127) hX dX3_digest_148 (by decide) ?_
                    exact gx_sub [2, 1, 0] rfl (ih127 (k + 1) (qhc (qg r n) r k x) (by omega) (by omega) (by rw [← hx]; rfl))
              exact gx_sub [2, 1, 0] rfl (L127 (n + 1) 0 (qmix (qhs (fun k => r (5 + k)) k4 (qmix (qmix (qmix (qmix (qhs cn 3 11872) (nI q)) (r 1)) (r 3)) (r 4))) (r 0)) (by omega) (by omega) rfl)
            · refine gx_lload_n hX 1 dX3_digest_91 rfl rfl ?_
              refine gx_aload_n hX 0 dX3_digest_92 rfl rfl ?_
              refine gx_get hC 0 inlX3 wf_RX3_12 rfl hM.1 rfl rfl rfl rfl dX3_digest_93 rfl ?_
              refine gx_get hC 5 inlX2 wf_RX3_106 rfl hM.2.1 rfl rfl rfl rfl dX3_digest_96 rfl ?_
              refine gx_iload_n hX 2 dX3_digest_99 rfl rfl ?_
              refine gx_iald (i := k) hC ((hM.2.2.2.2.2 _ hM.2.1).2.1) rfl rfl (by omega) rfl dX3_digest_100 rfl ?_
              refine gx_topi (b := (r (5 + k))) (hlj k h88) ?_
              refine gx_i2l hX dX3_digest_101 rfl ?_
              refine gx_callS (As := [.long x, .long (((r (5 + k)) : Int32).toInt64)]) (st := []) hC (c_X3_mix l Y σ x (r (5 + k))) kX3_mix wm_RX3_159 rfl rfl rfl rfl dX3_digest_102 rfl (gx_kj fun r102 τ102 hq102 => ?_)
              obtain ⟨rfl, rfl⟩ := hq102
              refine gx_lstore_n (lv' := [(1, .long (qmix x (r (5 + k)))), (0, .ref nb), (3, .int (nI k))]) hX dX3_digest_105 rfl (by decide) rfl ?_
              refine gx_iinc (w := (nI (k + 1))) (lv' := [(3, .int (nI (k + 1))), (1, .long (qmix x (r (5 + k)))), (0, .ref nb)]) hX 2 dX3_digest_106 rfl rfl (nI_add _ _) (by decide) rfl ?_
              refine gx_goto (pc' := 80) hX dX3_digest_109 (by decide) ?_
              exact gx_sub [2, 1, 0] rfl (ih80 (k + 1) (qmix x (r (5 + k))) (by omega) (by omega) (by rw [← hx]; rfl))
        exact gx_sub [2, 1, 0] rfl (L80 (k4 + 1) 0 (qmix (qmix (qmix (qmix (qhs cn 3 11872) (nI q)) (r 1)) (r 3)) (r 4)) (by omega) (by omega) rfl)
      · refine gx_lload_n hX 1 dX3_digest_11 rfl rfl ?_
        refine gx_aload_n hX 0 dX3_digest_12 rfl rfl ?_
        refine gx_get hC 3 inlX3 wf_RX3_24 rfl hM.1 rfl rfl rfl rfl dX3_digest_13 rfl ?_
        refine gx_iload_n hX 2 dX3_digest_16 rfl rfl ?_
        refine gx_iald (i := k) hC hM.2.2.2.1 rfl rfl (by omega) rfl dX3_digest_17 rfl ?_
        refine gx_topi (b := (cn k)) (congrFun hcn k) ?_
        refine gx_i2l hX dX3_digest_18 rfl ?_
        refine gx_callS (As := [.long x, .long (((cn k) : Int32).toInt64)]) (st := []) hC (c_X3_mix l Y σ x (cn k)) kX3_mix wm_RX3_159 rfl rfl rfl rfl dX3_digest_19 rfl (gx_kj fun r19 τ19 hq19 => ?_)
        obtain ⟨rfl, rfl⟩ := hq19
        refine gx_lstore_n (lv' := [(1, .long (qmix x (cn k))), (0, .ref nb), (3, .int (nI k))]) hX dX3_digest_22 rfl (by decide) rfl ?_
        refine gx_iinc (w := (nI (k + 1))) (lv' := [(3, .int (nI (k + 1))), (1, .long (qmix x (cn k))), (0, .ref nb)]) hX 2 dX3_digest_23 rfl rfl (nI_add _ _) (by decide) rfl ?_
        refine gx_goto (pc' := 6) hX dX3_digest_26 (by decide) ?_
        exact gx_sub [2, 1, 0] rfl (ih6 (k + 1) (qmix x (cn k)) (by omega) (by omega) (by rw [← hx]; rfl))
  exact gx_sub [2, 1, 0] rfl (L6 (3 + 1) 0 11872 (by omega) (by omega) rfl)
