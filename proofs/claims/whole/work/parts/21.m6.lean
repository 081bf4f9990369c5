set_option maxRecDepth 100000 in
set_option maxHeartbeats 4000000 in
theorem c_X4_addCell (l : Launch) (Y : gL) (mo : Nat) (σ : gS) (r : Nat → Int32) (n : Nat) (P : Nat → Nat → Int32) (q : Nat) (cn : Nat → Int32) (hM : gLM Y mo) (hA : gMA Y mo σ (r, n, P, q, cn)) (B : Nat) (hB : B + 12 < 2 ^ 30) (hI : qAI (r, n, P, q, cn) B) (v op x y : Int32) : gM l yX4_addCell cX4_addCell 6 (some .int) (gRm 9 199) Y [.ref mo, .int v, .int op, .int x, .int y] σ (gI fun z τ => (qaddCell (r, n, P, q, cn) v op x y).1 = z ∧ gMA Y mo τ (qaddCell (r, n, P, q, cn) v op x y).2) := by
  have hr : gRow Y mo σ r n := hA.1
  have hr1 := hr.1
  have hr2 := hr.2.1
  have hr3 := hr.2.2
  have hI1 : qRI r n B := hI.1
  refine gM.of (by decide) rfl ?_
  intro p e s m args below meth c hC
  have hX := hC.1
  refine gx_iload_n hX 1 dX4_addCell_0 rfl rfl ?_
  refine gx_iload_n hX 2 dX4_addCell_1 rfl rfl ?_
  refine gx_iload_n hX 3 dX4_addCell_2 rfl rfl ?_
  refine gx_iload hX 4 dX4_addCell_3 rfl rfl ?_
  refine gx_callS (As := [.int v, .int op, .int x, .int y]) (st := []) hC (c_X4_isDefinition l Y σ v op x y) kX4_isDefinition wm_RX4_121 rfl rfl rfl rfl dX4_addCell_5 rfl (gx_ki fun r5 τ5 hq5 => ?_)
  obtain ⟨rfl, ⟨rfl, hb5⟩ | ⟨rfl, hb5⟩⟩ := hq5
  · refine gx_if_ne_t (tgt := 19) hX dX4_addCell_8 (by decide) (by decide) ?_
    refine gx_aload_n hX 0 dX4_addCell_19 rfl rfl ?_
    refine gx_get hC 0 inlX4 wf_RX4_7 rfl (gM0 hM) rfl rfl rfl rfl dX4_addCell_20 rfl ?_
    refine gx_iconst (v := 0) hX dX4_addCell_23 rfl (by decide) ?_
    refine gx_iald (i := 0) hC (gM1 hM) rfl rfl (by omega) rfl dX4_addCell_24 rfl ?_
    refine gx_topi (b := (nI n)) (by rw [(hr).1]; exact (hr).2.1) ?_
    refine gx_bipush (v := 12) hX dX4_addCell_25 rfl (by decide) ?_
    refine gx_nat_ne (i := n) (j := 12) (tgt := 38) hX dX4_addCell_27 (by decide) rfl rfl rfl (by omega) (by omega) (fun h27 => ?_) (fun h27 => ?_)
    · refine gx_aload_n hX 0 dX4_addCell_38 rfl rfl ?_
      refine gx_callV (As := []) (st := []) hC (c_X4_save l Y mo σ r n P q cn hM hA) kX4_save wm_RX4_112 rfl (gM0 hM) rfl rfl rfl rfl rfl dX4_addCell_39 rfl (gx_kv fun τ39 hq39 => ?_)
      have hrs : gRow Y mo τ39 (qsv r) n := hq39.2.1
      refine gx_aload_n hX 0 dX4_addCell_42 rfl rfl ?_
      refine gx_get hC 0 inlX4 wf_RX4_7 rfl (gM0 hM) rfl rfl rfl rfl dX4_addCell_43 rfl ?_
      refine gx_iconst (v := 0) hX dX4_addCell_46 rfl (by decide) ?_
      refine gx_iald (i := 0) hC (gM1 hM) rfl rfl (by omega) rfl dX4_addCell_47 rfl ?_
      refine gx_topi (b := (nI n)) (by rw [(hrs).1]; exact (hrs).2.1) ?_
      refine gx_istore (lv' := [(5, .int (nI n)), (0, .ref mo), (1, .int v), (2, .int op), (3, .int x), (4, .int y)]) hX dX4_addCell_48 rfl (by decide) rfl ?_
      refine gx_aload_n hX 1 dX4_addCell_50 rfl rfl ?_
      refine gx_iload hX 0 dX4_addCell_51 rfl rfl ?_
      refine gx_iload_n hX 2 dX4_addCell_53 rfl rfl ?_
      refine gx_iload_n hX 3 dX4_addCell_54 rfl rfl ?_
      refine gx_iload_n hX 4 dX4_addCell_55 rfl rfl ?_
      refine gx_iload hX 5 dX4_addCell_56 rfl rfl ?_
      refine gx_callV (As := [.int (nI n), .int v, .int op, .int x, .int y]) (st := []) hC (c_X4_define l Y mo τ39 (qsv r) (n) hM hrs n (by omega) v op x y) kX4_define wm_RX4_125 rfl (gM0 hM) rfl rfl rfl rfl rfl dX4_addCell_58 rfl (gx_kv fun τ58 hq58 => ?_)
      refine gx_aload_n hX 1 dX4_addCell_61 rfl rfl ?_
      refine gx_get hC 0 inlX4 wf_RX4_7 rfl (gM0 hM) rfl rfl rfl rfl dX4_addCell_62 rfl ?_
      refine gx_iload hX 0 dX4_addCell_65 rfl rfl ?_
      refine gx_bipush (v := 8) hX dX4_addCell_67 rfl (by decide) ?_
      refine gx_callS (As := [.int (nI n), .int 8]) (st := [.ref (gF Y mo 0)]) hC (c_X4_at l Y τ58 n 8) kX4_at wm_RX4_38 rfl rfl rfl rfl dX4_addCell_69 rfl (gx_ki fun r69 τ69 hq69 => ?_)
      obtain ⟨rfl, rfl⟩ := hq69
      refine gx_iconst (v := 0) hX dX4_addCell_72 rfl (by decide) ?_
      refine gx_iast (i := 17 + 10 * n + 8) hC (gM1 hM) rfl rfl rfl rfl (by omega) rfl dX4_addCell_73 rfl ?_
      have h73 : gRow Y mo (uI τ58 (gF Y mo 0) (17 + 10 * n + 8) 0) (qup (qdef (qsv r) n v op x y) (17 + 10 * n + 8) 0) n := hq58.2.now (by omega)
      refine gx_aload_n hX 1 dX4_addCell_74 rfl rfl ?_
      refine gx_get hC 0 inlX4 wf_RX4_7 rfl (gM0 hM) rfl rfl rfl rfl dX4_addCell_75 rfl ?_
      refine gx_iconst (v := 0) hX dX4_addCell_78 rfl (by decide) ?_
      refine gx_dup2 hX dX4_addCell_79 rfl rfl rfl ?_
      refine gx_iald (i := 0) hC (gM1 hM) rfl rfl (by omega) rfl dX4_addCell_80 rfl ?_
      refine gx_topi (b := (nI n)) (by rw [(h73).1]; exact (h73).2.1) ?_
      refine gx_iconst (v := 1) hX dX4_addCell_81 rfl (by decide) ?_
      refine gx_iaddN (i := n) (j := 1) hX dX4_addCell_82 rfl rfl rfl ?_
      refine gx_iast (i := 0) hC (gM1 hM) rfl rfl rfl rfl (by omega) rfl dX4_addCell_83 rfl ?_
      have h83 : gRow Y mo (uI (uI τ58 (gF Y mo 0) (17 + 10 * n + 8) 0) (gF Y mo 0) 0 (nI (n + 1))) (qadd1 r n v op x y) (n + 1) := h73.cnt (by omega)
      refine gx_aload_n hX 1 dX4_addCell_84 rfl rfl ?_
      refine gx_callV (As := []) (st := []) hC (c_X4_runIfEager l Y mo (uI (uI τ58 (gF Y mo 0) (17 + 10 * n + 8) 0) (gF Y mo 0) 0 (nI (n + 1))) (qadd1 r n v op x y) (n + 1) hM h83 B hB (qRI_add hI1 (by omega) hb5.1 hb5.2.2.1 hb5.2.2.2) ((qadd1_off (by omega) (by omega)).trans rfl)) kX4_runIfEager wm_RX4_129 rfl (gM0 hM) rfl rfl rfl rfl rfl dX4_addCell_85 rfl (gx_kv fun τ85 hq85 => ?_)
      refine gx_iload hX 0 dX4_addCell_88 rfl rfl ?_
      refine gx_iret hC dX4_addCell_90 ?_
      have hz : qaddCell (r, n, P, q, cn) v op x y = (nI n, qsave (r, n, P, q, cn) (qeag (qadd1 r n v op x y) (n + 1)) (n + 1)) := (if_pos hb5).trans (if_neg h27)
      rw [hz]
      have he : gEq Y [15, 16, 19, 20, 21, 22, 23] τ39 τ85 := ((hq58.1.mono (by decide)).put (gM1 hM) (by decide)).put (gM1 hM) (by decide) |>.tr (hq85.1.mono (by decide))
      exact ⟨rfl, hq39.2.row hM he (by rw [hq85.2.1, uI_ne (gK_ne (gM0 hM) (gM1 hM) (by decide)), uI_ne (gK_ne (gM0 hM) (gM1 hM) (by decide)), hq58.1.at (gM0 hM) (by decide)]) (by decide) (by decide) hq85.2.2⟩
    · refine gx_aload_n hX 0 dX4_addCell_30 rfl rfl ?_
      refine gx_sipush (v := (-10004)) hX dX4_addCell_31 rfl (by decide) ?_
      refine gx_callV (As := [.int (-10004)]) (st := []) hC (c_X4_error l Y mo σ 2 (-10004) hM (by decide) (by decide)) kX4_error wm_RX4_118 rfl (gM0 hM) rfl rfl rfl rfl rfl dX4_addCell_34 rfl (gx_ki fun r34 τ34 hq34 => ?_)
      obtain ⟨rfl, rfl⟩ := hq34
      refine gx_iret hC dX4_addCell_37 ?_
      have hz : qaddCell (r, n, P, q, cn) v op x y = (-10004, qfail (r, n, P, q, cn) 2) := (if_pos hb5).trans (if_pos h27)
      rw [hz]
      exact ⟨rfl, hA.fail hM⟩
  · refine gx_if_ne_f (tgt := 19) hX dX4_addCell_8 (by decide) rfl (by decide) ?_
    refine gx_aload_n hX 0 dX4_addCell_11 rfl rfl ?_
    refine gx_sipush (v := (-10002)) hX dX4_addCell_12 rfl (by decide) ?_
    refine gx_callV (As := [.int (-10002)]) (st := []) hC (c_X4_error l Y mo σ 0 (-10002) hM (by decide) (by decide)) kX4_error wm_RX4_118 rfl (gM0 hM) rfl rfl rfl rfl rfl dX4_addCell_15 rfl (gx_ki fun r15 τ15 hq15 => ?_)
    obtain ⟨rfl, rfl⟩ := hq15
    refine gx_iret hC dX4_addCell_18 ?_
    have hz : qaddCell (r, n, P, q, cn) v op x y = (-10002, qfail (r, n, P, q, cn) 0) := if_neg hb5
    rw [hz]
    exact ⟨rfl, hA.fail hM⟩

set_option maxRecDepth 100000 in
set_option maxHeartbeats 4000000 in
theorem c_X4_editCell (l : Launch) (Y : gL) (mo : Nat) (σ : gS) (r : Nat → Int32) (n : Nat) (P : Nat → Nat → Int32) (q : Nat) (cn : Nat → Int32) (hM : gLM Y mo) (hA : gMA Y mo σ (r, n, P, q, cn)) (B : Nat) (hB : B + 12 < 2 ^ 30) (hI : qAI (r, n, P, q, cn) B) (w1 v op x y : Int32) : gM l yX4_editCell cX4_editCell 7 (some .int) (gRm 9 199) Y [.ref mo, .int w1, .int v, .int op, .int x, .int y] σ (gI fun z τ => (qeditCell (r, n, P, q, cn) w1 v op x y).1 = z ∧ gMA Y mo τ (qeditCell (r, n, P, q, cn) w1 v op x y).2) := by
  have hr : gRow Y mo σ r n := hA.1
  have hr1 := hr.1
  have hr2 := hr.2.1
  have hr3 := hr.2.2
  have hI1 : qRI r n B := hI.1
  refine gM.of (by decide) rfl ?_
  intro p e s m args below meth c hC
  have hX := hC.1
  refine gx_aload_n hX 0 dX4_editCell_0 rfl rfl ?_
  refine gx_iload_n hX 1 dX4_editCell_1 rfl rfl ?_
  refine gx_callV (As := [.int w1]) (st := []) hC (c_X4_isCell l Y mo σ r n hM hr w1) kX4_isCell wm_RX4_115 rfl (gM0 hM) rfl rfl rfl rfl rfl dX4_editCell_2 rfl (gx_ki fun r2 τ2 hq2 => ?_)
  obtain ⟨rfl, ⟨rfl, hb2⟩ | ⟨rfl, hb2⟩⟩ := hq2
  · obtain ⟨j, hj, rfl⟩ := hb2
    refine gx_if_eq_f (tgt := 20) hX dX4_editCell_5 (by decide) rfl (by decide) ?_
    refine gx_iload_n hX 2 dX4_editCell_8 rfl rfl ?_
    refine gx_iload_n hX 3 dX4_editCell_9 rfl rfl ?_
    refine gx_iload hX 4 dX4_editCell_10 rfl rfl ?_
    refine gx_iload hX 5 dX4_editCell_12 rfl rfl ?_
    refine gx_callS (As := [.int v, .int op, .int x, .int y]) (st := []) hC (c_X4_isDefinition l Y σ v op x y) kX4_isDefinition wm_RX4_121 rfl rfl rfl rfl dX4_editCell_14 rfl (gx_ki fun r14 τ14 hq14 => ?_)
    obtain ⟨rfl, ⟨rfl, hb14⟩ | ⟨rfl, hb14⟩⟩ := hq14
    · refine gx_if_ne_t (tgt := 28) hX dX4_editCell_17 (by decide) (by decide) ?_
      refine gx_aload_n hX 0 dX4_editCell_28 rfl rfl ?_
      refine gx_callV (As := []) (st := []) hC (c_X4_save l Y mo σ r n P q cn hM hA) kX4_save wm_RX4_112 rfl (gM0 hM) rfl rfl rfl rfl rfl dX4_editCell_29 rfl (gx_kv fun τ29 hq29 => ?_)
      have hrs : gRow Y mo τ29 (qsv r) n := hq29.2.1
      refine gx_aload_n hX 0 dX4_editCell_32 rfl rfl ?_
      refine gx_iload_n hX 1 dX4_editCell_33 rfl rfl ?_
      refine gx_iconst (v := 0) hX dX4_editCell_34 rfl (by decide) ?_
      refine gx_callV (As := [.int (nI j), .int 0]) (st := []) hC (c_X4_get l Y mo τ29 (qsv r) j 0 hM hrs.1 (by omega)) kX4_get wm_RX4_50 rfl (gM0 hM) rfl rfl rfl rfl rfl dX4_editCell_35 rfl (gx_ki fun r35 τ35 hq35 => ?_)
      obtain ⟨rfl, rfl⟩ := hq35
      refine gx_istore (lv' := [(6, .int ((qsv r) (17 + 10 * j + 0))), (0, .ref mo), (1, .int (nI j)), (2, .int v), (3, .int op), (4, .int x), (5, .int y)]) hX dX4_editCell_38 rfl (by decide) rfl ?_
      refine gx_aload_n hX 1 dX4_editCell_40 rfl rfl ?_
      refine gx_iload_n hX 2 dX4_editCell_41 rfl rfl ?_
      refine gx_iload_n hX 3 dX4_editCell_42 rfl rfl ?_
      refine gx_iload_n hX 4 dX4_editCell_43 rfl rfl ?_
      refine gx_iload hX 5 dX4_editCell_44 rfl rfl ?_
      refine gx_iload hX 6 dX4_editCell_46 rfl rfl ?_
      refine gx_callV (As := [.int (nI j), .int v, .int op, .int x, .int y]) (st := []) hC (c_X4_define l Y mo τ29 (qsv r) (n) hM hrs j (by omega) v op x y) kX4_define wm_RX4_125 rfl (gM0 hM) rfl rfl rfl rfl rfl dX4_editCell_48 rfl (gx_kv fun τ48 hq48 => ?_)
      refine gx_aload_n hX 1 dX4_editCell_51 rfl rfl ?_
      refine gx_callV (As := []) (st := []) hC (c_X4_runIfEager l Y mo τ48 (qdef (qsv r) j v op x y) (n) hM hq48.2 B hB (qRI_def (qRI_sv hI1) hj hb14.1 hb14.2.2.1 hb14.2.2.2) ((qdef_off (by omega)).trans rfl)) kX4_runIfEager wm_RX4_129 rfl (gM0 hM) rfl rfl rfl rfl rfl dX4_editCell_52 rfl (gx_kv fun τ52 hq52 => ?_)
      refine gx_iload hX 0 dX4_editCell_55 rfl rfl ?_
      refine gx_iret hC dX4_editCell_57 ?_
      have hz : qeditCell (r, n, P, q, cn) (nI j) v op x y = (r (17 + 10 * j + 0), qsave (r, n, P, q, cn) (qeag (qdef (qsv r) j v op x y) n) n) := (qcell_some hr3 hj).trans (if_pos hb14)
      rw [hz]
      exact ⟨(qup_off (by omega)).symm, hq29.2.row hM ((hq48.1.mono (by decide)).tr hq52.1) (by rw [hq52.2.1, hq48.1.at (gM0 hM) (by decide)]) (by decide) (by decide) hq52.2.2⟩
    · refine gx_if_ne_f (tgt := 28) hX dX4_editCell_17 (by decide) rfl (by decide) ?_
      refine gx_aload_n hX 0 dX4_editCell_20 rfl rfl ?_
      refine gx_sipush (v := (-10002)) hX dX4_editCell_21 rfl (by decide) ?_
      refine gx_callV (As := [.int (-10002)]) (st := []) hC (c_X4_error l Y mo σ 0 (-10002) hM (by decide) (by decide)) kX4_error wm_RX4_118 rfl (gM0 hM) rfl rfl rfl rfl rfl dX4_editCell_24 rfl (gx_ki fun r24 τ24 hq24 => ?_)
      obtain ⟨rfl, rfl⟩ := hq24
      refine gx_iret hC dX4_editCell_27 ?_
      have hz : qeditCell (r, n, P, q, cn) (nI j) v op x y = (-10002, qfail (r, n, P, q, cn) 0) := (qcell_some hr3 hj).trans (if_neg hb14)
      rw [hz]
      exact ⟨rfl, hA.fail hM⟩
  · refine gx_if_eq_t (tgt := 20) hX dX4_editCell_5 (by decide) (by decide) ?_
    refine gx_aload_n hX 0 dX4_editCell_20 rfl rfl ?_
    refine gx_sipush (v := (-10002)) hX dX4_editCell_21 rfl (by decide) ?_
    refine gx_callV (As := [.int (-10002)]) (st := []) hC (c_X4_error l Y mo σ 0 (-10002) hM (by decide) (by decide)) kX4_error wm_RX4_118 rfl (gM0 hM) rfl rfl rfl rfl rfl dX4_editCell_24 rfl (gx_ki fun r24 τ24 hq24 => ?_)
    obtain ⟨rfl, rfl⟩ := hq24
    refine gx_iret hC dX4_editCell_27 ?_
    have hz : qeditCell (r, n, P, q, cn) w1 v op x y = (-10002, qfail (r, n, P, q, cn) 0) := qcell_none hr3 hb2
    rw [hz]
    exact ⟨rfl, hA.fail hM⟩

set_option maxRecDepth 100000 in
set_option maxHeartbeats 4000000 in
theorem c_X4_deleteCell (l : Launch) (Y : gL) (mo : Nat) (σ : gS) (r : Nat → Int32) (n : Nat) (P : Nat → Nat → Int32) (q : Nat) (cn : Nat → Int32) (hM : gLM Y mo) (hA : gMA Y mo σ (r, n, P, q, cn)) (B : Nat) (hB : B + 12 < 2 ^ 30) (hI : qAI (r, n, P, q, cn) B) (w1 : Int32) : gM l yX4_deleteCell cX4_deleteCell 3 (some .int) (gRm 9 199) Y [.ref mo, .int w1] σ (gI fun z τ => (qdeleteCell (r, n, P, q, cn) w1).1 = z ∧ gMA Y mo τ (qdeleteCell (r, n, P, q, cn) w1).2) := by
  have hr : gRow Y mo σ r n := hA.1
  have hr1 := hr.1
  have hr2 := hr.2.1
  have hr3 := hr.2.2
  have hI1 : qRI r n B := hI.1
  refine gM.of (by decide) rfl ?_
  intro p e s m args below meth c hC
  have hX := hC.1
  refine gx_aload_n hX 0 dX4_deleteCell_0 rfl rfl ?_
  refine gx_iload_n hX 1 dX4_deleteCell_1 rfl rfl ?_
  refine gx_callV (As := [.int w1]) (st := []) hC (c_X4_isCell l Y mo σ r n hM hr w1) kX4_isCell wm_RX4_115 rfl (gM0 hM) rfl rfl rfl rfl rfl dX4_deleteCell_2 rfl (gx_ki fun r2 τ2 hq2 => ?_)
  obtain ⟨rfl, ⟨rfl, hb2⟩ | ⟨rfl, hb2⟩⟩ := hq2
  · obtain ⟨j, hj, rfl⟩ := hb2
    refine gx_if_ne_t (tgt := 16) hX dX4_deleteCell_5 (by decide) (by decide) ?_
    refine gx_aload_n hX 0 dX4_deleteCell_16 rfl rfl ?_
    refine gx_callV (As := []) (st := []) hC (c_X4_save l Y mo σ r n P q cn hM hA) kX4_save wm_RX4_112 rfl (gM0 hM) rfl rfl rfl rfl rfl dX4_deleteCell_17 rfl (gx_kv fun τ17 hq17 => ?_)
    have hrs : gRow Y mo τ17 (qsv r) n := hq17.2.1
    refine gx_aload_n hX 0 dX4_deleteCell_20 rfl rfl ?_
    refine gx_get hC 0 inlX4 wf_RX4_7 rfl (gM0 hM) rfl rfl rfl rfl dX4_deleteCell_21 rfl ?_
    refine gx_iconst (v := 0) hX dX4_deleteCell_24 rfl (by decide) ?_
    refine gx_dup2 hX dX4_deleteCell_25 rfl rfl rfl ?_
    refine gx_iald (i := 0) hC (gM1 hM) rfl rfl (by omega) rfl dX4_deleteCell_26 rfl ?_
    refine gx_topi (b := (nI n)) (by rw [(hrs).1]; exact (hrs).2.1) ?_
    refine gx_iconst (v := 1) hX dX4_deleteCell_27 rfl (by decide) ?_
    refine gx_isubN (i := n) (j := 1) hX dX4_deleteCell_28 rfl rfl rfl (by omega) ?_
    refine gx_iast (i := 0) hC (gM1 hM) rfl rfl rfl rfl (by omega) rfl dX4_deleteCell_29 rfl ?_
    have h29 : gRow Y mo (uI τ17 (gF Y mo 0) 0 (nI (n - 1))) (qup (qsv r) 0 (nI (n - 1))) (n - 1) := hrs.cnt (by omega)
    refine gx_iload_n hX 1 dX4_deleteCell_30 rfl rfl ?_
    refine gx_istore_n (lv' := [(2, .int (nI j)), (0, .ref mo), (1, .int (nI j))]) hX dX4_deleteCell_31 rfl (by decide) rfl ?_
    have L32 : ∀ (k32 : Nat) (x : Nat) (τ : gS), n - x < k32 → (x ≤ n - 1) → (j ≤ x) → (gEq Y [16] τ17 τ) → (gRow Y mo τ (qshl (qup (qsv r) 0 (nI (n - 1))) j x) (n - 1)) → gG p l e (gRm 9 199) s m args below meth c Y (gI fun z τ => (qdeleteCell (r, n, P, q, cn) (nI j)).1 = z ∧ gMA Y mo τ (qdeleteCell (r, n, P, q, cn) (nI j)).2) τ 32 [(0, .ref mo), (1, .int (nI j)), (2, .int (nI x))] [] := by
      intro k32
      induction k32 with
      | zero => intro x τ hk32; exact absurd hk32 (Nat.not_lt_zero _)
      | succ k32 ih32 =>
        intro x τ hk32 hx hjx he hrt
        refine gx_iload_n hX 2 dX4_deleteCell_32 rfl rfl ?_
        refine gx_aload_n hX 0 dX4_deleteCell_33 rfl rfl ?_
        refine gx_get hC 0 inlX4 wf_RX4_7 rfl (gM0 hM) rfl rfl rfl rfl dX4_deleteCell_34 rfl ?_
        refine gx_iconst (v := 0) hX dX4_deleteCell_37 rfl (by decide) ?_
        refine gx_iald (i := 0) hC (gM1 hM) rfl rfl (by omega) rfl dX4_deleteCell_38 rfl ?_
        refine gx_topi (b := (nI (n - 1))) (by rw [(hrt).1]; exact (hrt).2.1) ?_
        refine gx_nat_ge (i := x) (j := n - 1) (tgt := 56) hX dX4_deleteCell_39 (by decide) rfl rfl rfl (by omega) (by omega) (fun h39 => ?_) (fun h39 => ?_)
        · refine gx_aload_n hX 0 dX4_deleteCell_56 rfl rfl ?_
          have hxn : x = n - 1 := by omega
          refine gx_callV (As := []) (st := []) hC (c_X4_runIfEager l Y mo τ (qshl (qup (qsv r) 0 (nI (n - 1))) j x) (n - 1) hM hrt B hB (by rw [hxn]; exact qRI_del (qRI_sv hI1) hj) ((qshl_low (by omega)).trans (qup_off (by omega)))) kX4_runIfEager wm_RX4_129 rfl (gM0 hM) rfl rfl rfl rfl rfl dX4_deleteCell_57 rfl (gx_kv fun τ57 hq57 => ?_)
          rw [hxn] at hq57
          refine gx_aload_n hX 0 dX4_deleteCell_60 rfl rfl ?_
          refine gx_get hC 0 inlX4 wf_RX4_7 rfl (gM0 hM) rfl rfl rfl rfl dX4_deleteCell_61 rfl ?_
          refine gx_iconst (v := 0) hX dX4_deleteCell_64 rfl (by decide) ?_
          refine gx_iald (i := 0) hC (gM1 hM) rfl rfl (by omega) rfl dX4_deleteCell_65 rfl ?_
          refine gx_topi (b := (nI (n - 1))) (by rw [(hq57.2.2).1]; exact (hq57.2.2).2.1) ?_
          refine gx_iret hC dX4_deleteCell_66 ?_
          have hz : qdeleteCell (r, n, P, q, cn) (nI j) = (nI (n - 1), qsave (r, n, P, q, cn) (qeag (qshl (qup (qsv r) 0 (nI (n - 1))) j (n - 1)) (n - 1)) (n - 1)) := qcell_some hr3 hj
          rw [hz]
          exact ⟨rfl, hq17.2.row hM ((he.mono (by decide)).tr hq57.1) (by rw [hq57.2.1, he.at (gM0 hM) (by decide)]) (by decide) (by decide) hq57.2.2⟩
        · refine gx_aload_n hX 0 dX4_deleteCell_42 rfl rfl ?_
          refine gx_iload_n hX 2 dX4_deleteCell_43 rfl rfl ?_
          refine gx_iconst (v := 1) hX dX4_deleteCell_44 rfl (by decide) ?_
          refine gx_iaddN (i := x) (j := 1) hX dX4_deleteCell_45 rfl rfl rfl ?_
          refine gx_iload_n hX 2 dX4_deleteCell_46 rfl rfl ?_
          refine gx_callV (As := [.int (nI (x + 1)), .int (nI x)]) (st := []) hC (c_X4_copyCell l Y mo τ (qshl (qup (qsv r) 0 (nI (n - 1))) j x) (n - 1) hM hrt (x + 1) x (by omega) (by omega) (by omega)) kX4_copyCell wm_RX4_132 rfl (gM0 hM) rfl rfl rfl rfl rfl dX4_deleteCell_47 rfl (gx_kv fun τ47 hq47 => ?_)
          refine gx_iinc (w := (nI (x + 1))) (lv' := [(2, .int (nI (x + 1))), (0, .ref mo), (1, .int (nI j))]) hX 2 dX4_deleteCell_50 rfl rfl (nI_add _ _) (by decide) rfl ?_
          refine gx_goto (pc' := 32) hX dX4_deleteCell_53 (by decide) ?_
          exact gx_sub [1, 2, 0] rfl (ih32 (x + 1) _ (by omega) (by omega) (by omega) (he.tr hq47.1) (by rw [← qshl_s hjx]; exact hq47.2))
    exact gx_sub [1, 2, 0] rfl (L32 (n + 1) j _ (by omega) (by omega) (Nat.le_refl j) (gEq.rf.put (gM1 hM) (by decide)) (by rw [qshl_0]; exact h29))
  · refine gx_if_ne_f (tgt := 16) hX dX4_deleteCell_5 (by decide) rfl (by decide) ?_
    refine gx_aload_n hX 0 dX4_deleteCell_8 rfl rfl ?_
    refine gx_sipush (v := (-10002)) hX dX4_deleteCell_9 rfl (by decide) ?_
    refine gx_callV (As := [.int (-10002)]) (st := []) hC (c_X4_error l Y mo σ 0 (-10002) hM (by decide) (by decide)) kX4_error wm_RX4_118 rfl (gM0 hM) rfl rfl rfl rfl rfl dX4_deleteCell_12 rfl (gx_ki fun r12 τ12 hq12 => ?_)
    obtain ⟨rfl, rfl⟩ := hq12
    refine gx_iret hC dX4_deleteCell_15 ?_
    have hz : qdeleteCell (r, n, P, q, cn) w1 = (-10002, qfail (r, n, P, q, cn) 0) := qcell_none hr3 hb2
    rw [hz]
    exact ⟨rfl, hA.fail hM⟩

set_option maxRecDepth 100000 in
set_option maxHeartbeats 4000000 in
theorem c_X4_moveCell (l : Launch) (Y : gL) (mo : Nat) (σ : gS) (r : Nat → Int32) (n : Nat) (P : Nat → Nat → Int32) (q : Nat) (cn : Nat → Int32) (hM : gLM Y mo) (hA : gMA Y mo σ (r, n, P, q, cn)) (B : Nat) (hB : B + 12 < 2 ^ 30) (hI : qAI (r, n, P, q, cn) B) (w1 w2 : Int32) : gM l yX4_moveCell cX4_moveCell 6 (some .int) (gRm 9 199) Y [.ref mo, .int w1, .int w2] σ (gI fun z τ => (qmoveCell (r, n, P, q, cn) w1 w2).1 = z ∧ gMA Y mo τ (qmoveCell (r, n, P, q, cn) w1 w2).2) := by
  have hr : gRow Y mo σ r n := hA.1
  have hr1 := hr.1
  have hr2 := hr.2.1
  have hr3 := hr.2.2
  have hI1 : qRI r n B := hI.1
  refine gM.of (by decide) rfl ?_
  intro p e s m args below meth c hC
  have hX := hC.1
  refine gx_aload_n hX 0 dX4_moveCell_0 rfl rfl ?_
  refine gx_iload_n hX 1 dX4_moveCell_1 rfl rfl ?_
  refine gx_callV (As := [.int w1]) (st := []) hC (c_X4_isCell l Y mo σ r n hM hr w1) kX4_isCell wm_RX4_115 rfl (gM0 hM) rfl rfl rfl rfl rfl dX4_moveCell_2 rfl (gx_ki fun r2 τ2 hq2 => ?_)
  obtain ⟨rfl, ⟨rfl, hb2⟩ | ⟨rfl, hb2⟩⟩ := hq2
  · obtain ⟨j, hj, rfl⟩ := hb2
    refine gx_if_eq_f (tgt := 16) hX dX4_moveCell_5 (by decide) rfl (by decide) ?_
    refine gx_aload_n hX 0 dX4_moveCell_8 rfl rfl ?_
    refine gx_iload_n hX 2 dX4_moveCell_9 rfl rfl ?_
    refine gx_callV (As := [.int w2]) (st := []) hC (c_X4_isCell l Y mo σ r n hM hr w2) kX4_isCell wm_RX4_115 rfl (gM0 hM) rfl rfl rfl rfl rfl dX4_moveCell_10 rfl (gx_ki fun r10 τ10 hq10 => ?_)
    obtain ⟨rfl, ⟨rfl, hb10⟩ | ⟨rfl, hb10⟩⟩ := hq10
    · obtain ⟨k, hk, rfl⟩ := hb10
      refine gx_if_ne_t (tgt := 24) hX dX4_moveCell_13 (by decide) (by decide) ?_
      refine gx_aload_n hX 0 dX4_moveCell_24 rfl rfl ?_
      refine gx_callV (As := []) (st := []) hC (c_X4_save l Y mo σ r n P q cn hM hA) kX4_save wm_RX4_112 rfl (gM0 hM) rfl rfl rfl rfl rfl dX4_moveCell_25 rfl (gx_kv fun τ25 hq25 => ?_)
      have hrs : gRow Y mo τ25 (qsv r) n := hq25.2.1
      refine gx_iconst (v := 0) hX dX4_moveCell_28 rfl (by decide) ?_
      refine gx_istore_n (lv' := [(3, .int 0), (0, .ref mo), (1, .int (nI j)), (2, .int (nI k))]) hX dX4_moveCell_29 rfl (by decide) rfl ?_
      have L30 : ∀ (k30 : Nat) (i : Nat) (τ : gS), 10 - i < k30 → (i ≤ 10) → (gEq Y [24] τ25 τ) → (∀ z, z < i → τ.1 (gF Y mo 10) z = r (17 + 10 * j + z)) → gG p l e (gRm 9 199) s m args below meth c Y (gI fun z τ => (qmoveCell (r, n, P, q, cn) (nI j) (nI k)).1 = z ∧ gMA Y mo τ (qmoveCell (r, n, P, q, cn) (nI j) (nI k)).2) τ 30 [(0, .ref mo), (1, .int (nI j)), (2, .int (nI k)), (3, .int (nI i))] [] := by
        intro k30
        induction k30 with
        | zero => intro i τ hk30; exact absurd hk30 (Nat.not_lt_zero _)
        | succ k30 ih30 =>
          intro i τ hk30 hi he hmv
          have hrt : gRow Y mo τ (qsv r) n := hrs.eq hM he (by decide)
          refine gx_iload_n hX 3 dX4_moveCell_30 rfl rfl ?_
          refine gx_bipush (v := 10) hX dX4_moveCell_31 rfl (by decide) ?_
          refine gx_nat_ge (i := i) (j := 10) (tgt := 54) hX dX4_moveCell_33 (by decide) rfl rfl rfl (by omega) (by omega) (fun h33 => ?_) (fun h33 => ?_)
          · refine gx_iload_n hX 2 dX4_moveCell_54 rfl rfl ?_
            refine gx_iload_n hX 1 dX4_moveCell_55 rfl rfl ?_
            refine gx_nat_le (i := k) (j := j) (tgt := 63) hX dX4_moveCell_56 (by decide) rfl rfl rfl (by omega) (by omega) (fun h56 => ?_) (fun h56 => ?_)
            · refine gx_iconst (v := (-1)) hX dX4_moveCell_63 rfl (by decide) ?_
              refine gx_istore_n (lv' := [(3, .int (-1)), (0, .ref mo), (1, .int (nI j)), (2, .int (nI k))]) hX dX4_moveCell_64 rfl (by decide) rfl ?_
              refine gx_iconst (v := 0) hX dX4_moveCell_65 rfl (by decide) ?_
              refine gx_istore (lv' := [(4, .int 0), (3, .int (-1)), (0, .ref mo), (1, .int (nI j)), (2, .int (nI k))]) hX dX4_moveCell_66 rfl (by decide) rfl ?_
              refine gx_iload_n hX 3 dX4_moveCell_68 rfl rfl ?_
              refine gx_istore (lv' := [(5, .int (nI j)), (4, .int 0), (3, .int (-1)), (0, .ref mo), (1, .int (nI j)), (2, .int (nI k))]) hX dX4_moveCell_69 rfl (by decide) rfl ?_
              have L71 : ∀ (k71 : Nat) (x y : Nat) (υ : gS), x - k < k71 → (k ≤ x) → (x ≤ j) → (y = j - x) → (gEq Y [16, 24] τ25 υ) → (∀ z, z < 10 → υ.1 (gF Y mo 10) z = r (17 + 10 * j + z)) → (gRow Y mo υ (qshr (qsv r) j x) n) → gG p l e (gRm 9 199) s m args below meth c Y (gI fun z τ => (qmoveCell (r, n, P, q, cn) (nI j) (nI k)).1 = z ∧ gMA Y mo τ (qmoveCell (r, n, P, q, cn) (nI j) (nI k)).2) υ 71 [(0, .ref mo), (1, .int (nI j)), (2, .int (nI k)), (3, .int (-1)), (4, .int (nI y)), (5, .int (nI x))] [] := by
                intro k71
                induction k71 with
                | zero => intro x y υ hk71; exact absurd hk71 (Nat.not_lt_zero _)
                | succ k71 ih71 =>
                  intro x y υ hk71 hx hjx hy heu hmo hru
                  refine gx_iload hX 5 dX4_moveCell_71 rfl rfl ?_
                  refine gx_iload_n hX 2 dX4_moveCell_73 rfl rfl ?_
                  refine gx_nat_eq (i := x) (j := k) (tgt := 99) hX dX4_moveCell_74 (by decide) rfl rfl rfl (by omega) (by omega) (fun h74 => ?_) (fun h74 => ?_)
                  · refine gx_iconst (v := 0) hX dX4_moveCell_99 rfl (by decide) ?_
                    refine gx_istore (lv' := [(5, .int 0), (0, .ref mo), (1, .int (nI j)), (2, .int (nI k)), (3, .int (-1)), (4, .int (nI y))]) hX dX4_moveCell_100 rfl (by decide) rfl ?_
                    have L102 : ∀ (k102 : Nat) (i : Nat) (ω : gS), 10 - i < k102 → (i ≤ 10) → (gEq Y [16, 24] τ25 ω) → (∀ z, z < 10 → ω.1 (gF Y mo 10) z = r (17 + 10 * j + z)) → (gRow Y mo ω (qlay (qshr (qsv r) j x) k (fun z => r (17 + 10 * j + z)) i) n) → gG p l e (gRm 9 199) s m args below meth c Y (gI fun z τ => (qmoveCell (r, n, P, q, cn) (nI j) (nI k)).1 = z ∧ gMA Y mo τ (qmoveCell (r, n, P, q, cn) (nI j) (nI k)).2) ω 102 [(0, .ref mo), (1, .int (nI j)), (2, .int (nI k)), (4, .int (nI y)), (5, .int (nI i)), (3, .int (-1))] [] := by
                      intro k102
                      induction k102 with
                      | zero => intro i ω hk102; exact absurd hk102 (Nat.not_lt_zero _)
                      | succ k102 ih102 =>
                        intro i ω hk102 hi heo hmw hro
                        refine gx_iload hX 4 dX4_moveCell_102 rfl rfl ?_
                        refine gx_bipush (v := 10) hX dX4_moveCell_104 rfl (by decide) ?_
                        refine gx_nat_ge (i := i) (j := 10) (tgt := 133) hX dX4_moveCell_106 (by decide) rfl rfl rfl (by omega) (by omega) (fun h106 => ?_) (fun h106 => ?_)
                        · have hi10 : i = 10 := by omega
                          have eqm : qmv (qsv r) j k = qlay (qshr (qsv r) j k) k (fun z => r (17 + 10 * j + z)) 10 := by unfold qmv; rw [if_neg (by omega)]; exact qlay_cg (fun z hz => qup_off (by omega))
                          have hmr : gRow Y mo ω (qmv (qsv r) j k) n := by rw [eqm]; rw [hi10, show x = k by omega] at hro; exact hro
                          refine gx_aload_n hX 0 dX4_moveCell_133 rfl rfl ?_
                          refine gx_callV (As := []) (st := []) hC (c_X4_runIfEager l Y mo ω (qmv (qsv r) j k) n hM hmr B hB (qRI_mv (qRI_sv hI1) hj hk) ((qmv_low (by omega)).trans rfl)) kX4_runIfEager wm_RX4_129 rfl (gM0 hM) rfl rfl rfl rfl rfl dX4_moveCell_134 rfl (gx_kv fun τ134 hq134 => ?_)
                          refine gx_iload hX 3 dX4_moveCell_137 rfl rfl ?_
                          refine gx_if_ne (tgt := 146) hX dX4_moveCell_139 (by decide) rfl (fun h139 => ?_) (fun h139 => ?_)
                          · refine gx_iload hX 3 dX4_moveCell_146 rfl rfl ?_
                            refine gx_iconst (v := 1) hX dX4_moveCell_148 rfl (by decide) ?_
                            refine gx_iaddN (i := y) (j := 1) hX dX4_moveCell_149 rfl rfl rfl ?_
                            refine gx_iret hC dX4_moveCell_150 ?_
                            have hz : qmoveCell (r, n, P, q, cn) (nI j) (nI k) = (nI (if j = k then 0 else if j < k then k - j + 1 else j - k + 1), qsave (r, n, P, q, cn) (qeag (qmv (qsv r) j k) n) n) := (qcell_some hr3 hj).trans (qcell_some hr3 hk)
                            rw [hz]
                            have hxk : x = k := by omega
                            have hy0 : y ≠ 0 := fun q => h139 ((nI_bmod (by omega)).mpr q)
                            have ha : nI (if j = k then 0 else if j < k then k - j + 1 else j - k + 1) = nI (y + 1) := by rw [if_neg (by omega)]; congr 1; split <;> omega
                            exact ⟨ha, hq25.2.row hM ((heo.mono (rs' := [15, 16, 19, 20, 21, 22, 23, 24]) (by decide)).tr (hq134.1.mono (by decide))) (by rw [hq134.2.1, heo.at (gM0 hM) (by decide)]) (by decide) (by decide) hq134.2.2⟩
                          · refine gx_iconst (v := 0) hX dX4_moveCell_142 rfl (by decide) ?_
                            refine gx_goto (pc' := 150) hX dX4_moveCell_143 (by decide) ?_
                            refine gx_iret hC dX4_moveCell_150 ?_
                            have hz : qmoveCell (r, n, P, q, cn) (nI j) (nI k) = (nI (if j = k then 0 else if j < k then k - j + 1 else j - k + 1), qsave (r, n, P, q, cn) (qeag (qmv (qsv r) j k) n) n) := (qcell_some hr3 hj).trans (qcell_some hr3 hk)
                            rw [hz]
                            have hxk : x = k := by omega
                            have ha : nI (if j = k then 0 else if j < k then k - j + 1 else j - k + 1) = 0 := by rw [if_pos (by have := (nI_bmod (k := y) (by omega)).mp h139; omega)]; rfl
                            exact ⟨ha, hq25.2.row hM ((heo.mono (rs' := [15, 16, 19, 20, 21, 22, 23, 24]) (by decide)).tr (hq134.1.mono (by decide))) (by rw [hq134.2.1, heo.at (gM0 hM) (by decide)]) (by decide) (by decide) hq134.2.2⟩
                        · refine gx_aload_n hX 0 dX4_moveCell_109 rfl rfl ?_
                          refine gx_get hC 0 inlX4 wf_RX4_7 rfl (gM0 hM) rfl rfl rfl rfl dX4_moveCell_110 rfl ?_
                          refine gx_iload_n hX 2 dX4_moveCell_113 rfl rfl ?_
                          refine gx_iload hX 4 dX4_moveCell_114 rfl rfl ?_
                          refine gx_callS (As := [.int (nI k), .int (nI i)]) (st := [.ref (gF Y mo 0)]) hC (c_X4_at l Y ω k i) kX4_at wm_RX4_38 rfl rfl rfl rfl dX4_moveCell_116 rfl (gx_ki fun r116 τ116 hq116 => ?_)
                          obtain ⟨rfl, rfl⟩ := hq116
                          refine gx_aload_n hX 0 dX4_moveCell_119 rfl rfl ?_
                          refine gx_get hC 10 inlX4 wf_RX4_35 rfl (gM0 hM) rfl rfl rfl rfl dX4_moveCell_120 rfl ?_
                          refine gx_iload hX 4 dX4_moveCell_123 rfl rfl ?_
                          refine gx_iald (i := i) hC (gM10 hM) rfl rfl (by omega) rfl dX4_moveCell_125 rfl ?_
                          refine gx_topi (b := (r (17 + 10 * j + i))) (hmw i (by omega)) ?_
                          refine gx_iast (i := 17 + 10 * k + i) hC (gM1 hM) rfl rfl rfl rfl (by omega) rfl dX4_moveCell_126 rfl ?_
                          refine gx_iinc (w := (nI (i + 1))) (lv' := [(5, .int (nI (i + 1))), (0, .ref mo), (1, .int (nI j)), (2, .int (nI k)), (4, .int (nI y)), (3, .int (-1))]) hX 4 dX4_moveCell_127 rfl rfl (nI_add _ _) (by decide) rfl ?_
                          refine gx_goto (pc' := 102) hX dX4_moveCell_130 (by decide) ?_
                          exact gx_sub [1, 2, 3, 4, 0, 5] rfl (ih102 (i + 1) _ (by omega) (by omega) (heo.put (gM1 hM) (by decide)) (by rw [uI_ne (gK_ne (gM10 hM) (gM1 hM) (by decide))]; exact hmw) (by rw [← qlay_s]; exact hro.now (by omega)))
                    exact gx_sub [1, 2, 3, 5, 0, 4] rfl (L102 11 0 _ (by omega) (by omega) heu hmo (by rw [qlay_0]; exact hru))
                  · refine gx_aload_n hX 0 dX4_moveCell_77 rfl rfl ?_
                    refine gx_iload hX 5 dX4_moveCell_78 rfl rfl ?_
                    refine gx_iload_n hX 3 dX4_moveCell_80 rfl rfl ?_
                    refine gx_iadd hX dX4_moveCell_81 rfl ?_
                    refine gx_topi (b := (nI (x - 1))) (nI_dec (by omega)) ?_
                    refine gx_iload hX 5 dX4_moveCell_82 rfl rfl ?_
                    refine gx_callV (As := [.int (nI (x - 1)), .int (nI x)]) (st := []) hC (c_X4_copyCell l Y mo υ (qshr (qsv r) j x) (n) hM hru (x - 1) x (by omega) (by omega) (by omega)) kX4_copyCell wm_RX4_132 rfl (gM0 hM) rfl rfl rfl rfl rfl dX4_moveCell_84 rfl (gx_kv fun τ84 hq84 => ?_)
                    refine gx_iinc (w := (nI (y + 1))) (lv' := [(4, .int (nI (y + 1))), (0, .ref mo), (1, .int (nI j)), (2, .int (nI k)), (3, .int (-1)), (5, .int (nI x))]) hX 4 dX4_moveCell_87 rfl rfl (nI_add _ _) (by decide) rfl ?_
                    refine gx_iload hX 5 dX4_moveCell_90 rfl rfl ?_
                    refine gx_iload_n hX 4 dX4_moveCell_92 rfl rfl ?_
                    refine gx_iadd hX dX4_moveCell_93 rfl ?_
                    refine gx_topi (b := (nI (x - 1))) (nI_dec (by omega)) ?_
                    refine gx_istore (lv' := [(5, .int (nI (x - 1))), (4, .int (nI (y + 1))), (0, .ref mo), (1, .int (nI j)), (2, .int (nI k)), (3, .int (-1))]) hX dX4_moveCell_94 rfl (by decide) rfl ?_
                    refine gx_goto (pc' := 71) hX dX4_moveCell_96 (by decide) ?_
                    exact gx_sub [2, 3, 4, 5, 1, 0] rfl (ih71 (x - 1) (y + 1) _ (by omega) (by omega) (by omega) (by omega) (heu.tr (hq84.1.mono (by decide))) (by rw [hq84.1.at (gM10 hM) (by decide)]; exact hmo) (by rw [← qshr_p (by omega) hjx]; exact hq84.2))
              exact gx_sub [3, 4, 5, 2, 1, 0] rfl (L71 (j - k + 1) j 0 _ (by omega) (by omega) (by omega) (by omega) (he.mono (by decide)) (fun z hz => hmv z (by omega)) (by rw [qshr_0]; exact hrt))
            · refine gx_iconst (v := 1) hX dX4_moveCell_59 rfl (by decide) ?_
              refine gx_goto (pc' := 64) hX dX4_moveCell_60 (by decide) ?_
              refine gx_istore_n (lv' := [(3, .int 1), (0, .ref mo), (1, .int (nI j)), (2, .int (nI k))]) hX dX4_moveCell_64 rfl (by decide) rfl ?_
              refine gx_iconst (v := 0) hX dX4_moveCell_65 rfl (by decide) ?_
              refine gx_istore (lv' := [(4, .int 0), (3, .int 1), (0, .ref mo), (1, .int (nI j)), (2, .int (nI k))]) hX dX4_moveCell_66 rfl (by decide) rfl ?_
              refine gx_iload_n hX 3 dX4_moveCell_68 rfl rfl ?_
              refine gx_istore (lv' := [(5, .int (nI j)), (4, .int 0), (3, .int 1), (0, .ref mo), (1, .int (nI j)), (2, .int (nI k))]) hX dX4_moveCell_69 rfl (by decide) rfl ?_
              have L71 : ∀ (k71 : Nat) (x y : Nat) (υ : gS), k - x < k71 → (x ≤ k) → (j ≤ x) → (y = x - j) → (gEq Y [16, 24] τ25 υ) → (∀ z, z < 10 → υ.1 (gF Y mo 10) z = r (17 + 10 * j + z)) → (gRow Y mo υ (qshl (qsv r) j x) n) → gG p l e (gRm 9 199) s m args below meth c Y (gI fun z τ => (qmoveCell (r, n, P, q, cn) (nI j) (nI k)).1 = z ∧ gMA Y mo τ (qmoveCell (r, n, P, q, cn) (nI j) (nI k)).2) υ 71 [(0, .ref mo), (1, .int (nI j)), (2, .int (nI k)), (3, .int 1), (4, .int (nI y)), (5, .int (nI x))] [] := by
                intro k71
                induction k71 with
                | zero => intro x y υ hk71; exact absurd hk71 (Nat.not_lt_zero _)
                | succ k71 ih71 =>
                  intro x y υ hk71 hx hjx hy heu hmo hru
                  refine gx_iload hX 5 dX4_moveCell_71 rfl rfl ?_
                  refine gx_iload_n hX 2 dX4_moveCell_73 rfl rfl ?_
                  refine gx_nat_eq (i := x) (j := k) (tgt := 99) hX dX4_moveCell_74 (by decide) rfl rfl rfl (by omega) (by omega) (fun h74 => ?_) (fun h74 => ?_)
                  · refine gx_iconst (v := 0) hX dX4_moveCell_99 rfl (by decide) ?_
                    refine gx_istore (lv' := [(5, .int 0), (0, .ref mo), (1, .int (nI j)), (2, .int (nI k)), (3, .int 1), (4, .int (nI y))]) hX dX4_moveCell_100 rfl (by decide) rfl ?_
                    have L102 : ∀ (k102 : Nat) (i : Nat) (ω : gS), 10 - i < k102 → (i ≤ 10) → (gEq Y [16, 24] τ25 ω) → (∀ z, z < 10 → ω.1 (gF Y mo 10) z = r (17 + 10 * j + z)) → (gRow Y mo ω (qlay (qshl (qsv r) j x) k (fun z => r (17 + 10 * j + z)) i) n) → gG p l e (gRm 9 199) s m args below meth c Y (gI fun z τ => (qmoveCell (r, n, P, q, cn) (nI j) (nI k)).1 = z ∧ gMA Y mo τ (qmoveCell (r, n, P, q, cn) (nI j) (nI k)).2) ω 102 [(0, .ref mo), (1, .int (nI j)), (2, .int (nI k)), (4, .int (nI y)), (5, .int (nI i)), (3, .int 1)] [] := by
                      intro k102
                      induction k102 with
                      | zero => intro i ω hk102; exact absurd hk102 (Nat.not_lt_zero _)
                      | succ k102 ih102 =>
                        intro i ω hk102 hi heo hmw hro
                        refine gx_iload hX 4 dX4_moveCell_102 rfl rfl ?_
                        refine gx_bipush (v := 10) hX dX4_moveCell_104 rfl (by decide) ?_
                        refine gx_nat_ge (i := i) (j := 10) (tgt := 133) hX dX4_moveCell_106 (by decide) rfl rfl rfl (by omega) (by omega) (fun h106 => ?_) (fun h106 => ?_)
                        · have hi10 : i = 10 := by omega
                          have eqm : qmv (qsv r) j k = qlay (qshl (qsv r) j k) k (fun z => r (17 + 10 * j + z)) 10 := by unfold qmv; rw [if_pos (by omega)]; exact qlay_cg (fun z hz => qup_off (by omega))
                          have hmr : gRow Y mo ω (qmv (qsv r) j k) n := by rw [eqm]; rw [hi10, show x = k by omega] at hro; exact hro
                          refine gx_aload_n hX 0 dX4_moveCell_133 rfl rfl ?_
                          refine gx_callV (As := []) (st := []) hC (c_X4_runIfEager l Y mo ω (qmv (qsv r) j k) n hM hmr B hB (qRI_mv (qRI_sv hI1) hj hk) ((qmv_low (by omega)).trans rfl)) kX4_runIfEager wm_RX4_129 rfl (gM0 hM) rfl rfl rfl rfl rfl dX4_moveCell_134 rfl (gx_kv fun τ134 hq134 => ?_)
                          refine gx_iload hX 3 dX4_moveCell_137 rfl rfl ?_
                          refine gx_if_ne (tgt := 146) hX dX4_moveCell_139 (by decide) rfl (fun h139 => ?_) (fun h139 => ?_)
                          · refine gx_iload hX 3 dX4_moveCell_146 rfl rfl ?_
                            refine gx_iconst (v := 1) hX dX4_moveCell_148 rfl (by decide) ?_
                            refine gx_iaddN (i := y) (j := 1) hX dX4_moveCell_149 rfl rfl rfl ?_
                            refine gx_iret hC dX4_moveCell_150 ?_
                            have hz : qmoveCell (r, n, P, q, cn) (nI j) (nI k) = (nI (if j = k then 0 else if j < k then k - j + 1 else j - k + 1), qsave (r, n, P, q, cn) (qeag (qmv (qsv r) j k) n) n) := (qcell_some hr3 hj).trans (qcell_some hr3 hk)
                            rw [hz]
                            have hxk : x = k := by omega
                            have hy0 : y ≠ 0 := fun q => h139 ((nI_bmod (by omega)).mpr q)
                            have ha : nI (if j = k then 0 else if j < k then k - j + 1 else j - k + 1) = nI (y + 1) := by rw [if_neg (by omega)]; congr 1; split <;> omega
                            exact ⟨ha, hq25.2.row hM ((heo.mono (rs' := [15, 16, 19, 20, 21, 22, 23, 24]) (by decide)).tr (hq134.1.mono (by decide))) (by rw [hq134.2.1, heo.at (gM0 hM) (by decide)]) (by decide) (by decide) hq134.2.2⟩
                          · refine gx_iconst (v := 0) hX dX4_moveCell_142 rfl (by decide) ?_
                            refine gx_goto (pc' := 150) hX dX4_moveCell_143 (by decide) ?_
                            refine gx_iret hC dX4_moveCell_150 ?_
                            have hz : qmoveCell (r, n, P, q, cn) (nI j) (nI k) = (nI (if j = k then 0 else if j < k then k - j + 1 else j - k + 1), qsave (r, n, P, q, cn) (qeag (qmv (qsv r) j k) n) n) := (qcell_some hr3 hj).trans (qcell_some hr3 hk)
                            rw [hz]
                            have hxk : x = k := by omega
                            have ha : nI (if j = k then 0 else if j < k then k - j + 1 else j - k + 1) = 0 := by rw [if_pos (by have := (nI_bmod (k := y) (by omega)).mp h139; omega)]; rfl
                            exact ⟨ha, hq25.2.row hM ((heo.mono (rs' := [15, 16, 19, 20, 21, 22, 23, 24]) (by decide)).tr (hq134.1.mono (by decide))) (by rw [hq134.2.1, heo.at (gM0 hM) (by decide)]) (by decide) (by decide) hq134.2.2⟩
                        · refine gx_aload_n hX 0 dX4_moveCell_109 rfl rfl ?_
                          refine gx_get hC 0 inlX4 wf_RX4_7 rfl (gM0 hM) rfl rfl rfl rfl dX4_moveCell_110 rfl ?_
                          refine gx_iload_n hX 2 dX4_moveCell_113 rfl rfl ?_
                          refine gx_iload hX 4 dX4_moveCell_114 rfl rfl ?_
                          refine gx_callS (As := [.int (nI k), .int (nI i)]) (st := [.ref (gF Y mo 0)]) hC (c_X4_at l Y ω k i) kX4_at wm_RX4_38 rfl rfl rfl rfl dX4_moveCell_116 rfl (gx_ki fun r116 τ116 hq116 => ?_)
                          obtain ⟨rfl, rfl⟩ := hq116
                          refine gx_aload_n hX 0 dX4_moveCell_119 rfl rfl ?_
                          refine gx_get hC 10 inlX4 wf_RX4_35 rfl (gM0 hM) rfl rfl rfl rfl dX4_moveCell_120 rfl ?_
                          refine gx_iload hX 4 dX4_moveCell_123 rfl rfl ?_
                          refine gx_iald (i := i) hC (gM10 hM) rfl rfl (by omega) rfl dX4_moveCell_125 rfl ?_
                          refine gx_topi (b := (r (17 + 10 * j + i))) (hmw i (by omega)) ?_
                          refine gx_iast (i := 17 + 10 * k + i) hC (gM1 hM) rfl rfl rfl rfl (by omega) rfl dX4_moveCell_126 rfl ?_
                          refine gx_iinc (w := (nI (i + 1))) (lv' := [(5, .int (nI (i + 1))), (0, .ref mo), (1, .int (nI j)), (2, .int (nI k)), (4, .int (nI y)), (3, .int 1)]) hX 4 dX4_moveCell_127 rfl rfl (nI_add _ _) (by decide) rfl ?_
                          refine gx_goto (pc' := 102) hX dX4_moveCell_130 (by decide) ?_
                          exact gx_sub [1, 2, 3, 4, 0, 5] rfl (ih102 (i + 1) _ (by omega) (by omega) (heo.put (gM1 hM) (by decide)) (by rw [uI_ne (gK_ne (gM10 hM) (gM1 hM) (by decide))]; exact hmw) (by rw [← qlay_s]; exact hro.now (by omega)))
                    exact gx_sub [1, 2, 3, 5, 0, 4] rfl (L102 11 0 _ (by omega) (by omega) heu hmo (by rw [qlay_0]; exact hru))
                  · refine gx_aload_n hX 0 dX4_moveCell_77 rfl rfl ?_
                    refine gx_iload hX 5 dX4_moveCell_78 rfl rfl ?_
                    refine gx_iload_n hX 3 dX4_moveCell_80 rfl rfl ?_
                    refine gx_iaddN (i := x) (j := 1) hX dX4_moveCell_81 rfl rfl rfl ?_
                    refine gx_topi (b := (nI (x + 1))) rfl ?_
                    refine gx_iload hX 5 dX4_moveCell_82 rfl rfl ?_
                    refine gx_callV (As := [.int (nI (x + 1)), .int (nI x)]) (st := []) hC (c_X4_copyCell l Y mo υ (qshl (qsv r) j x) (n) hM hru (x + 1) x (by omega) (by omega) (by omega)) kX4_copyCell wm_RX4_132 rfl (gM0 hM) rfl rfl rfl rfl rfl dX4_moveCell_84 rfl (gx_kv fun τ84 hq84 => ?_)
                    refine gx_iinc (w := (nI (y + 1))) (lv' := [(4, .int (nI (y + 1))), (0, .ref mo), (1, .int (nI j)), (2, .int (nI k)), (3, .int 1), (5, .int (nI x))]) hX 4 dX4_moveCell_87 rfl rfl (nI_add _ _) (by decide) rfl ?_
                    refine gx_iload hX 5 dX4_moveCell_90 rfl rfl ?_
                    refine gx_iload_n hX 4 dX4_moveCell_92 rfl rfl ?_
                    refine gx_iaddN (i := x) (j := 1) hX dX4_moveCell_93 rfl rfl rfl ?_
                    refine gx_topi (b := (nI (x + 1))) rfl ?_
                    refine gx_istore (lv' := [(5, .int (nI (x + 1))), (4, .int (nI (y + 1))), (0, .ref mo), (1, .int (nI j)), (2, .int (nI k)), (3, .int 1)]) hX dX4_moveCell_94 rfl (by decide) rfl ?_
                    refine gx_goto (pc' := 71) hX dX4_moveCell_96 (by decide) ?_
                    exact gx_sub [2, 3, 4, 5, 1, 0] rfl (ih71 (x + 1) (y + 1) _ (by omega) (by omega) (by omega) (by omega) (heu.tr (hq84.1.mono (by decide))) (by rw [hq84.1.at (gM10 hM) (by decide)]; exact hmo) (by rw [← qshl_s hjx]; exact hq84.2))
              exact gx_sub [3, 4, 5, 2, 1, 0] rfl (L71 (k - j + 1) j 0 _ (by omega) (by omega) (by omega) (by omega) (he.mono (by decide)) (fun z hz => hmv z (by omega)) (by rw [qshl_0]; exact hrt))
          · refine gx_aload_n hX 0 dX4_moveCell_36 rfl rfl ?_
            refine gx_get hC 10 inlX4 wf_RX4_35 rfl (gM0 hM) rfl rfl rfl rfl dX4_moveCell_37 rfl ?_
            refine gx_iload_n hX 3 dX4_moveCell_40 rfl rfl ?_
            refine gx_aload_n hX 0 dX4_moveCell_41 rfl rfl ?_
            refine gx_iload_n hX 1 dX4_moveCell_42 rfl rfl ?_
            refine gx_iload_n hX 3 dX4_moveCell_43 rfl rfl ?_
            refine gx_callV (As := [.int (nI j), .int (nI i)]) (st := [.int (nI i), .ref (gF Y mo 10)]) hC (c_X4_get l Y mo τ (qsv r) j i hM hrt.1 (by omega)) kX4_get wm_RX4_50 rfl (gM0 hM) rfl rfl rfl rfl rfl dX4_moveCell_44 rfl (gx_ki fun r44 τ44 hq44 => ?_)
            obtain ⟨rfl, rfl⟩ := hq44
            refine gx_topi (b := (r (17 + 10 * j + i))) (qup_off (by omega)) ?_
            refine gx_iast (i := i) hC (gM10 hM) rfl rfl rfl rfl (by omega) rfl dX4_moveCell_47 rfl ?_
            refine gx_iinc (w := (nI (i + 1))) (lv' := [(3, .int (nI (i + 1))), (0, .ref mo), (1, .int (nI j)), (2, .int (nI k))]) hX 3 dX4_moveCell_48 rfl rfl (nI_add _ _) (by decide) rfl ?_
            refine gx_goto (pc' := 30) hX dX4_moveCell_51 (by decide) ?_
            exact gx_sub [1, 2, 3, 0] rfl (ih30 (i + 1) _ (by omega) (by omega) (he.put (gM10 hM) (by decide)) (uI_rng (P := fun z => r (17 + 10 * j + z)) hmv rfl))
      exact gx_sub [1, 2, 3, 0] rfl (L30 11 0 _ (by omega) (by omega) gEq.rf (fun j hj => absurd hj (Nat.not_lt_zero j)))
    · refine gx_if_ne_f (tgt := 24) hX dX4_moveCell_13 (by decide) rfl (by decide) ?_
      refine gx_aload_n hX 0 dX4_moveCell_16 rfl rfl ?_
      refine gx_sipush (v := (-10002)) hX dX4_moveCell_17 rfl (by decide) ?_
      refine gx_callV (As := [.int (-10002)]) (st := []) hC (c_X4_error l Y mo σ 0 (-10002) hM (by decide) (by decide)) kX4_error wm_RX4_118 rfl (gM0 hM) rfl rfl rfl rfl rfl dX4_moveCell_20 rfl (gx_ki fun r20 τ20 hq20 => ?_)
      obtain ⟨rfl, rfl⟩ := hq20
      refine gx_iret hC dX4_moveCell_23 ?_
      have hz : qmoveCell (r, n, P, q, cn) (nI j) w2 = (-10002, qfail (r, n, P, q, cn) 0) := (qcell_some hr3 hj).trans (qcell_none hr3 hb10)
      rw [hz]
      exact ⟨rfl, hA.fail hM⟩
  · refine gx_if_eq_t (tgt := 16) hX dX4_moveCell_5 (by decide) (by decide) ?_
    refine gx_aload_n hX 0 dX4_moveCell_16 rfl rfl ?_
    refine gx_sipush (v := (-10002)) hX dX4_moveCell_17 rfl (by decide) ?_
    refine gx_callV (As := [.int (-10002)]) (st := []) hC (c_X4_error l Y mo σ 0 (-10002) hM (by decide) (by decide)) kX4_error wm_RX4_118 rfl (gM0 hM) rfl rfl rfl rfl rfl dX4_moveCell_20 rfl (gx_ki fun r20 τ20 hq20 => ?_)
    obtain ⟨rfl, rfl⟩ := hq20
    refine gx_iret hC dX4_moveCell_23 ?_
    have hz : qmoveCell (r, n, P, q, cn) w1 w2 = (-10002, qfail (r, n, P, q, cn) 0) := qcell_none hr3 hb2
    rw [hz]
    exact ⟨rfl, hA.fail hM⟩

set_option maxRecDepth 100000 in
set_option maxHeartbeats 4000000 in
theorem c_X4_setEager (l : Launch) (Y : gL) (mo : Nat) (σ : gS) (r : Nat → Int32) (n : Nat) (P : Nat → Nat → Int32) (q : Nat) (cn : Nat → Int32) (hM : gLM Y mo) (hA : gMA Y mo σ (r, n, P, q, cn)) (B : Nat) (hB : B + 12 < 2 ^ 30) (hI : qAI (r, n, P, q, cn) B) (x : Int32) : gM l yX4_setEager cX4_setEager 3 (some .int) (gRm 9 199) Y [.ref mo, .int x] σ (gI fun z τ => (qsetEager (r, n, P, q, cn) x).1 = z ∧ gMA Y mo τ (qsetEager (r, n, P, q, cn) x).2) := by
  have hr : gRow Y mo σ r n := hA.1
  have hr1 := hr.1
  have hr2 := hr.2.1
  have hr3 := hr.2.2
  have hI1 : qRI r n B := hI.1
  refine gM.of (by decide) rfl ?_
  intro p e s m args below meth c hC
  have hX := hC.1
  refine gx_iload_n hX 1 dX4_setEager_0 rfl rfl ?_
  refine gx_iconst (v := 0) hX dX4_setEager_1 rfl (by decide) ?_
  refine gx_iconst (v := 1) hX dX4_setEager_2 rfl (by decide) ?_
  refine gx_callS (As := [.int x, .int 0, .int 1]) (st := []) hC (c_X4_in l Y σ x 0 1) kX4_in wm_RX4_42 rfl rfl rfl rfl dX4_setEager_3 rfl (gx_ki fun r3 τ3 hq3 => ?_)
  obtain ⟨rfl, ⟨rfl, hb3⟩ | ⟨rfl, hb3⟩⟩ := hq3
  · refine gx_if_ne_t (tgt := 17) hX dX4_setEager_6 (by decide) (by decide) ?_
    refine gx_aload_n hX 0 dX4_setEager_17 rfl rfl ?_
    refine gx_callV (As := []) (st := []) hC (c_X4_save l Y mo σ r n P q cn hM hA) kX4_save wm_RX4_112 rfl (gM0 hM) rfl rfl rfl rfl rfl dX4_setEager_18 rfl (gx_kv fun τ18 hq18 => ?_)
    have hrs : gRow Y mo τ18 (qsv r) n := hq18.2.1
    refine gx_aload_n hX 0 dX4_setEager_21 rfl rfl ?_
    refine gx_get hC 0 inlX4 wf_RX4_7 rfl (gM0 hM) rfl rfl rfl rfl dX4_setEager_22 rfl ?_
    refine gx_iconst (v := 1) hX dX4_setEager_25 rfl (by decide) ?_
    refine gx_iald (i := 1) hC (gM1 hM) rfl rfl (by omega) rfl dX4_setEager_26 rfl ?_
    refine gx_topi (b := ((qsv r) 1)) (by rw [(hrs).1]) ?_
    refine gx_istore_n (lv' := [(2, .int ((qsv r) 1)), (0, .ref mo), (1, .int x)]) hX dX4_setEager_27 rfl (by decide) rfl ?_
    refine gx_aload_n hX 1 dX4_setEager_28 rfl rfl ?_
    refine gx_get hC 0 inlX4 wf_RX4_7 rfl (gM0 hM) rfl rfl rfl rfl dX4_setEager_29 rfl ?_
    refine gx_iconst (v := 1) hX dX4_setEager_32 rfl (by decide) ?_
    refine gx_iload_n hX 2 dX4_setEager_33 rfl rfl ?_
    refine gx_iast (i := 1) hC (gM1 hM) rfl rfl rfl rfl (by omega) rfl dX4_setEager_34 rfl ?_
    have h34 : gRow Y mo (uI τ18 (gF Y mo 0) 1 x) (qup (qsv r) 1 x) n := hrs.now (by omega)
    refine gx_aload_n hX 1 dX4_setEager_35 rfl rfl ?_
    refine gx_callV (As := []) (st := []) hC (c_X4_runIfEager l Y mo (uI τ18 (gF Y mo 0) 1 x) (qup (qsv r) 1 x) (n) hM h34 B hB (qRI_set (qRI_sv hI1) (qe01 hb3)) ((qup_off (by omega)).trans rfl)) kX4_runIfEager wm_RX4_129 rfl (gM0 hM) rfl rfl rfl rfl rfl dX4_setEager_36 rfl (gx_kv fun τ36 hq36 => ?_)
    refine gx_iload_n hX 0 dX4_setEager_39 rfl rfl ?_
    refine gx_iret hC dX4_setEager_40 ?_
    have hz : qsetEager (r, n, P, q, cn) x = (r 1, qsave (r, n, P, q, cn) (qeag (qup (qsv r) 1 x) n) n) := if_pos hb3
    rw [hz]
    exact ⟨(qup_off (by omega)).symm, hq18.2.row hM ((gEq.rf.put (gM1 hM) (by decide)).tr hq36.1) (by rw [hq36.2.1, uI_ne (gK_ne (gM0 hM) (gM1 hM) (by decide))]) (by decide) (by decide) hq36.2.2⟩
  · refine gx_if_ne_f (tgt := 17) hX dX4_setEager_6 (by decide) rfl (by decide) ?_
    refine gx_aload_n hX 0 dX4_setEager_9 rfl rfl ?_
    refine gx_sipush (v := (-10002)) hX dX4_setEager_10 rfl (by decide) ?_
    refine gx_callV (As := [.int (-10002)]) (st := []) hC (c_X4_error l Y mo σ 0 (-10002) hM (by decide) (by decide)) kX4_error wm_RX4_118 rfl (gM0 hM) rfl rfl rfl rfl rfl dX4_setEager_13 rfl (gx_ki fun r13 τ13 hq13 => ?_)
    obtain ⟨rfl, rfl⟩ := hq13
    refine gx_iret hC dX4_setEager_16 ?_
    have hz : qsetEager (r, n, P, q, cn) x = (-10002, qfail (r, n, P, q, cn) 0) := if_neg hb3
    rw [hz]
    exact ⟨rfl, hA.fail hM⟩

set_option maxRecDepth 100000 in
set_option maxHeartbeats 4000000 in
theorem c_X4_runStale (l : Launch) (Y : gL) (mo : Nat) (σ : gS) (r : Nat → Int32) (n : Nat) (P : Nat → Nat → Int32) (q : Nat) (cn : Nat → Int32) (hM : gLM Y mo) (hA : gMA Y mo σ (r, n, P, q, cn)) (B : Nat) (hB : B + 12 < 2 ^ 30) (hI : qAI (r, n, P, q, cn) B) : gM l yX4_runStale cX4_runStale 1 (some .int) (gRm 8 179) Y [.ref mo] σ (gI fun z τ => (qrunStale (r, n, P, q, cn)).1 = z ∧ gMA Y mo τ (qrunStale (r, n, P, q, cn)).2) := by
  have hr : gRow Y mo σ r n := hA.1
  have hr1 := hr.1
  have hr2 := hr.2.1
  have hr3 := hr.2.2
  have hI1 : qRI r n B := hI.1
  refine gM.of (by decide) rfl ?_
  intro p e s m args below meth c hC
  have hX := hC.1
  refine gx_aload_n hX 0 dX4_runStale_0 rfl rfl ?_
  refine gx_callV (As := []) (st := []) hC (c_X4_save l Y mo σ r n P q cn hM hA) kX4_save wm_RX4_112 rfl (gM0 hM) rfl rfl rfl rfl rfl dX4_runStale_1 rfl (gx_kv fun τ1 hq1 => ?_)
  have hrs : gRow Y mo τ1 (qsv r) n := hq1.2.1
  refine gx_aload_n hX 0 dX4_runStale_4 rfl rfl ?_
  refine gx_iconst (v := (-1)) hX dX4_runStale_5 rfl (by decide) ?_
  refine gx_callV (As := [.int (-1)]) (st := []) hC (c_X4_runThrough l Y mo τ1 (qsv r) n hM hrs B (-1) hB (qRI_sv hI1) rfl (qcl_all _ hr3)) kX4_runThrough wm_RX4_109 rfl (gM0 hM) rfl rfl rfl rfl rfl dX4_runStale_6 rfl (gx_kv fun τ6 hq6 => ?_)
  refine gx_aload_n hX 0 dX4_runStale_9 rfl rfl ?_
  refine gx_get hC 0 inlX4 wf_RX4_7 rfl (gM0 hM) rfl rfl rfl rfl dX4_runStale_10 rfl ?_
  refine gx_iconst (v := 4) hX dX4_runStale_13 rfl (by decide) ?_
  refine gx_iald (i := 4) hC (gM1 hM) rfl rfl (by omega) rfl dX4_runStale_14 rfl ?_
  refine gx_topi (b := ((qrt (qsv r) n (-1)) 4)) (by rw [(hq6.2.2).1]) ?_
  refine gx_iret hC dX4_runStale_15 ?_
  exact ⟨rfl, hq1.2.row hM hq6.1 hq6.2.1 (by decide) (by decide) hq6.2.2⟩

set_option maxRecDepth 100000 in
set_option maxHeartbeats 4000000 in
theorem c_X4_runCell (l : Launch) (Y : gL) (mo : Nat) (σ : gS) (r : Nat → Int32) (n : Nat) (P : Nat → Nat → Int32) (q : Nat) (cn : Nat → Int32) (hM : gLM Y mo) (hA : gMA Y mo σ (r, n, P, q, cn)) (B : Nat) (hB : B + 12 < 2 ^ 30) (hI : qAI (r, n, P, q, cn) B) (w1 : Int32) : gM l yX4_runCell cX4_runCell 2 (some .int) (gRm 8 179) Y [.ref mo, .int w1] σ (gI fun z τ => (qrunCell (r, n, P, q, cn) w1).1 = z ∧ gMA Y mo τ (qrunCell (r, n, P, q, cn) w1).2) := by
  have hr : gRow Y mo σ r n := hA.1
  have hr1 := hr.1
  have hr2 := hr.2.1
  have hr3 := hr.2.2
  have hI1 : qRI r n B := hI.1
  refine gM.of (by decide) rfl ?_
  intro p e s m args below meth c hC
  have hX := hC.1
  refine gx_aload_n hX 0 dX4_runCell_0 rfl rfl ?_
  refine gx_iload_n hX 1 dX4_runCell_1 rfl rfl ?_
  refine gx_callV (As := [.int w1]) (st := []) hC (c_X4_isCell l Y mo σ r n hM hr w1) kX4_isCell wm_RX4_115 rfl (gM0 hM) rfl rfl rfl rfl rfl dX4_runCell_2 rfl (gx_ki fun r2 τ2 hq2 => ?_)
  obtain ⟨rfl, ⟨rfl, hb2⟩ | ⟨rfl, hb2⟩⟩ := hq2
  · obtain ⟨j, hj, rfl⟩ := hb2
    refine gx_if_ne_t (tgt := 16) hX dX4_runCell_5 (by decide) (by decide) ?_
    refine gx_aload_n hX 0 dX4_runCell_16 rfl rfl ?_
    refine gx_callV (As := []) (st := []) hC (c_X4_derive l Y mo σ r n hM hr) kX4_derive wm_RX4_102 rfl (gM0 hM) rfl rfl rfl rfl rfl dX4_runCell_17 rfl (gx_kv fun τ17 hq17 => ?_)
    have hrd : gRow Y mo τ17 r n := hr.eq hM hq17.1 (by decide)
    have hAd : gMA Y mo τ17 (r, n, P, q, cn) := hA.eq hM hq17.1 hq17.2.1 (by decide) (by decide) (by decide)
    refine gx_aload_n hX 0 dX4_runCell_20 rfl rfl ?_
    refine gx_get hC 5 inlX4 wf_RX4_22 rfl (gM0 hM) rfl rfl rfl rfl dX4_runCell_21 rfl ?_
    refine gx_iload_n hX 1 dX4_runCell_24 rfl rfl ?_
    refine gx_iald (i := j) hC (gM5 hM) rfl rfl (by omega) rfl dX4_runCell_25 rfl ?_
    refine gx_topi (b := (qw (qg r n) j)) (hq17.2.2.2.2.1 j hj) ?_
    refine gx_if_eq (tgt := 37) hX dX4_runCell_26 (by decide) rfl (fun h26 => ?_) (fun h26 => ?_)
    · refine gx_aload_n hX 0 dX4_runCell_37 rfl rfl ?_
      refine gx_callV (As := []) (st := []) hC (c_X4_save l Y mo τ17 r n P q cn hM hAd) kX4_save wm_RX4_112 rfl (gM0 hM) rfl rfl rfl rfl rfl dX4_runCell_38 rfl (gx_kv fun τ38 hq38 => ?_)
      have hrs : gRow Y mo τ38 (qsv r) n := hq38.2.1
      have hset : ∀ d, d < n → qt (qset (qg r n) j) d = qt (τ38.1 (gF Y mo 6) j ||| ((1 : Int32) <<< ((nI j) &&& 31))) d := qset_arr (g := qg r n) hr3 hj (by rw [hq38.1.at (gM6 hM) (by decide)]; exact fun d hd => hq17.2.2.2.1 j d hj hd)
      have hcls : qcl (qg (qsv r) n) (τ38.1 (gF Y mo 6) j ||| ((1 : Int32) <<< ((nI j) &&& 31))) := by rw [qg_sv]; exact qcl_congr (g := qg r n) hr3 hset (qcl_set (g := qg r n) hr3 hj)
      have hqe : qrt (qsv r) n (qset (qg r n) j) = qrt (qsv r) n (τ38.1 (gF Y mo 6) j ||| ((1 : Int32) <<< ((nI j) &&& 31))) := qrt_congr hset
      refine gx_aload_n hX 0 dX4_runCell_41 rfl rfl ?_
      refine gx_aload_n hX 0 dX4_runCell_42 rfl rfl ?_
      refine gx_get hC 6 inlX4 wf_RX4_25 rfl (gM0 hM) rfl rfl rfl rfl dX4_runCell_43 rfl ?_
      refine gx_iload_n hX 1 dX4_runCell_46 rfl rfl ?_
      refine gx_iald (i := j) hC (gM6 hM) rfl rfl (by omega) rfl dX4_runCell_47 rfl ?_
      refine gx_iconst (v := 1) hX dX4_runCell_48 rfl (by decide) ?_
      refine gx_iload_n hX 1 dX4_runCell_49 rfl rfl ?_
      refine gx_ishl hX dX4_runCell_50 rfl ?_
      refine gx_ior hX dX4_runCell_51 rfl ?_
      refine gx_callV (As := [.int ((τ38.1 (gF Y mo 6) j) ||| (1 <<< ((nI j) &&& 31)))]) (st := []) hC (c_X4_runThrough l Y mo τ38 (qsv r) n hM hrs B (τ38.1 (gF Y mo 6) j ||| ((1 : Int32) <<< ((nI j) &&& 31))) hB (qRI_sv hI1) rfl hcls) kX4_runThrough wm_RX4_109 rfl (gM0 hM) rfl rfl rfl rfl rfl dX4_runCell_52 rfl (gx_kv fun τ52 hq52 => ?_)
      refine gx_aload_n hX 0 dX4_runCell_55 rfl rfl ?_
      refine gx_get hC 0 inlX4 wf_RX4_7 rfl (gM0 hM) rfl rfl rfl rfl dX4_runCell_56 rfl ?_
      refine gx_iconst (v := 4) hX dX4_runCell_59 rfl (by decide) ?_
      refine gx_iald (i := 4) hC (gM1 hM) rfl rfl (by omega) rfl dX4_runCell_60 rfl ?_
      refine gx_topi (b := ((qrt (qsv r) n (τ38.1 (gF Y mo 6) j ||| ((1 : Int32) <<< ((nI j) &&& 31)))) 4)) (by rw [(hq52.2.2).1]) ?_
      refine gx_iret hC dX4_runCell_61 ?_
      have hz : qrunCell (r, n, P, q, cn) (nI j) = (qrt (qsv r) n (qset (qg r n) j) 4, qsave (r, n, P, q, cn) (qrt (qsv r) n (qset (qg r n) j)) n) := (qcell_some hr3 hj).trans (if_pos h26)
      rw [hz, hqe]
      exact ⟨rfl, hq38.2.row hM hq52.1 hq52.2.1 (by decide) (by decide) hq52.2.2⟩
    · refine gx_aload_n hX 0 dX4_runCell_29 rfl rfl ?_
      refine gx_sipush (v := (-10003)) hX dX4_runCell_30 rfl (by decide) ?_
      refine gx_callV (As := [.int (-10003)]) (st := []) hC (c_X4_error l Y mo τ17 1 (-10003) hM (by decide) (by decide)) kX4_error wm_RX4_118 rfl (gM0 hM) rfl rfl rfl rfl rfl dX4_runCell_33 rfl (gx_ki fun r33 τ33 hq33 => ?_)
      obtain ⟨rfl, rfl⟩ := hq33
      refine gx_iret hC dX4_runCell_36 ?_
      have hz : qrunCell (r, n, P, q, cn) (nI j) = (-10003, qfail (r, n, P, q, cn) 1) := (qcell_some hr3 hj).trans (if_neg h26)
      rw [hz]
      exact ⟨rfl, hAd.fail hM⟩
  · refine gx_if_ne_f (tgt := 16) hX dX4_runCell_5 (by decide) rfl (by decide) ?_
    refine gx_aload_n hX 0 dX4_runCell_8 rfl rfl ?_
    refine gx_sipush (v := (-10002)) hX dX4_runCell_9 rfl (by decide) ?_
    refine gx_callV (As := [.int (-10002)]) (st := []) hC (c_X4_error l Y mo σ 0 (-10002) hM (by decide) (by decide)) kX4_error wm_RX4_118 rfl (gM0 hM) rfl rfl rfl rfl rfl dX4_runCell_12 rfl (gx_ki fun r12 τ12 hq12 => ?_)
    obtain ⟨rfl, rfl⟩ := hq12
    refine gx_iret hC dX4_runCell_15 ?_
    have hz : qrunCell (r, n, P, q, cn) w1 = (-10002, qfail (r, n, P, q, cn) 0) := qcell_none hr3 hb2
    rw [hz]
    exact ⟨rfl, hA.fail hM⟩
