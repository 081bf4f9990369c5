set_option maxRecDepth 100000 in
set_option maxHeartbeats 4000000 in
theorem c_X3_addCell (l : Launch) (Y : gL) (nb : Nat) (σ : gS) (r : Nat → Int32) (n : Nat) (P : Nat → Nat → Int32) (q : Nat) (cn : Nat → Int32) (hM : zLC Y nb) (hA : zA Y nb σ (r, n, P, q, cn)) (B : Nat) (hBB : B + 12 < 2 ^ 30) (hI : qAI (r, n, P, q, cn) B) (v op x y : Int32) : gM l yX3_addCell cX3_addCell 5 (some .int) (gRm 7 148) Y [.ref nb, .int v, .int op, .int x, .int y] σ (gI fun z τ => (qaddCell (r, n, P, q, cn) v op x y).1 = z ∧ zA Y nb τ (qaddCell (r, n, P, q, cn) v op x y).2) := by
  have hH : zH Y nb σ P q cn := hA.1
  have hB : zB Y σ (gF Y nb 0) r n := hA.2.1
  have hL : zL Y σ (gF Y nb 0) r := hA.2.2.1
  have hG : zG Y σ (gF Y nb 4) (qg r n) := hA.2.2.2.1
  have hF : zM (σ.1 nb 5) (qF (qg r n) r) := hA.2.2.2.2
  have hc := hH.1.1 _ hM.2.1
  have hn : n ≤ 12 := hB.2.1
  have hgn : qn (qg r n) = n := rfl
  have hm := qm_le (qg r n)
  have hI1 : qRI r n B := hI.1
  refine gM.of (by decide) rfl ?_
  intro p e s m args below meth c hC
  have hX := hC.1
  refine gx_iload_n hX 1 dX3_addCell_0 rfl rfl ?_
  refine gx_iload_n hX 2 dX3_addCell_1 rfl rfl ?_
  refine gx_iload_n hX 3 dX3_addCell_2 rfl rfl ?_
  refine gx_iload hX 4 dX3_addCell_3 rfl rfl ?_
  refine gx_callS (As := [.int v, .int op, .int x, .int y]) (st := []) hC (c_X3_isDefinition l Y σ v op x y) kX3_isDefinition wm_RX3_38 rfl rfl rfl rfl dX3_addCell_5 rfl (gx_ki fun r5 τ5 hq5 => ?_)
  obtain ⟨rfl, ⟨rfl, hb5⟩ | ⟨rfl, hb5⟩⟩ := hq5
  · refine gx_if_ne_t (tgt := 19) hX dX3_addCell_8 (by decide) (by decide) ?_
    refine gx_aload_n hX 0 dX3_addCell_19 rfl rfl ?_
    refine gx_get hC 0 inlX3 wf_RX3_12 rfl hM.1 rfl rfl rfl rfl dX3_addCell_20 rfl ?_
    refine gx_get hC 1 inlX2 wf_RX3_46 rfl hM.2.1 rfl rfl rfl rfl dX3_addCell_23 rfl ?_
    refine gx_topi (b := (nI n)) hB.2.2.1 ?_
    refine gx_bipush (v := 12) hX dX3_addCell_26 rfl (by decide) ?_
    refine gx_nat_lt (i := n) (j := 12) (tgt := 39) hX dX3_addCell_28 (by decide) rfl rfl rfl (by omega) (by omega) (fun h28 => ?_) (fun h28 => ?_)
    · refine gx_aload_n hX 0 dX3_addCell_39 rfl rfl ?_
      refine gx_callV (As := []) (st := []) hC (c_X3_save l Y nb σ hM P q cn hH r n hB hL) kX3_save wm_RX3_49 rfl hM.1 rfl rfl rfl rfl rfl dX3_addCell_40 rfl (gx_kv fun τ40 hq40 => ?_)
      have hH2 := hq40.1
      have hB2 := hq40.2.1
      have hL2 := hq40.2.2.1
      have hs2 := hq40.2.2.2.1
      have hc2 := hH2.1.1 _ hM.2.1
      have hS := hM.2.2.2.2.2
      have ht := hM.2.1
      refine gx_aload_n hX 0 dX3_addCell_43 rfl rfl ?_
      refine gx_get hC 0 inlX3 wf_RX3_12 rfl hM.1 rfl rfl rfl rfl dX3_addCell_44 rfl ?_
      refine gx_iload_n hX 1 dX3_addCell_47 rfl rfl ?_
      refine gx_iload_n hX 2 dX3_addCell_48 rfl rfl ?_
      refine gx_iload_n hX 3 dX3_addCell_49 rfl rfl ?_
      refine gx_iload hX 4 dX3_addCell_50 rfl rfl ?_
      refine gx_callV (As := [.int v, .int op, .int x, .int y]) (st := []) hC (c_X2_append l Y (gF Y nb 0) τ40 hS ht hc2 r n hB2 (by omega) v op x y) kX2_append wm_RX3_52 rfl hM.2.1 rfl rfl rfl rfl rfl dX3_addCell_52 rfl (gx_kv fun τ52 hq52 => ?_)
      obtain ⟨f52, w52⟩ := τ52
      obtain rfl : w52 = τ40.2 := hq52.1.1
      have hH3 : zH Y nb (f52, τ40.2) (qpush P q r) (qpn q) cn := hH2.fr hM (hq52.1.mono (fun a z => Or.inl z)) (congrFun (hq52.1.2 nb (znb hM)) 2)
      refine gx_aload_n hX 0 dX3_addCell_55 rfl rfl ?_
      refine gx_callV (As := []) (st := []) hC (c_X3_finishEditing l Y nb (f52, τ40.2) hM (qpush P q r) (qpn q) cn hH3 (qadd1 r n v op x y) (n + 1) hq52.2 ((qadd1_off (by omega) (by omega)).trans qsv_4) B (qRI_add hI1 (by omega) hb5.1 hb5.2.2.1 hb5.2.2.2) hBB) kX3_finishEditing wm_RX3_56 rfl hM.1 rfl rfl rfl rfl rfl dX3_addCell_56 rfl (gx_kv fun τ56 hq56 => ?_)
      refine gx_aload_n hX 0 dX3_addCell_59 rfl rfl ?_
      refine gx_get hC 0 inlX3 wf_RX3_12 rfl hM.1 rfl rfl rfl rfl dX3_addCell_60 rfl ?_
      refine gx_get hC 1 inlX2 wf_RX3_46 rfl hM.2.1 rfl rfl rfl rfl dX3_addCell_63 rfl ?_
      refine gx_topi (b := (nI (n + 1))) hq56.2.1.2.2.1 ?_
      refine gx_iconst (v := 1) hX dX3_addCell_66 rfl (by decide) ?_
      refine gx_isubN (i := n + 1) (j := 1) hX dX3_addCell_67 rfl rfl rfl (by omega) ?_
      refine gx_iret hC dX3_addCell_68 ?_
      have hz : qaddCell (r, n, P, q, cn) v op x y = (nI n, qsave (r, n, P, q, cn) (qeag (qadd1 r n v op x y) (n + 1)) (n + 1)) := (if_pos hb5).trans (if_neg (show ¬ n = 12 by omega))
      rw [hz]
      exact ⟨rfl, hq56⟩
    · refine gx_aload_n hX 0 dX3_addCell_31 rfl rfl ?_
      refine gx_sipush (v := (-10004)) hX dX3_addCell_32 rfl (by decide) ?_
      refine gx_callV (As := [.int (-10004)]) (st := []) hC (c_X3_fail l Y nb σ hM (-10004) 2 (by omega) (by decide)) kX3_fail wm_RX3_42 rfl hM.1 rfl rfl rfl rfl rfl dX3_addCell_35 rfl (gx_ki fun r35 τ35 hq35 => ?_)
      obtain ⟨rfl, rfl⟩ := hq35
      refine gx_iret hC dX3_addCell_38 ?_
      have hz : qaddCell (r, n, P, q, cn) v op x y = (-10004, qfail (r, n, P, q, cn) 2) := (if_pos hb5).trans (if_pos (show n = 12 by omega))
      rw [hz]
      exact ⟨rfl, hA.fail hM⟩
  · refine gx_if_ne_f (tgt := 19) hX dX3_addCell_8 (by decide) rfl (by decide) ?_
    refine gx_aload_n hX 0 dX3_addCell_11 rfl rfl ?_
    refine gx_sipush (v := (-10002)) hX dX3_addCell_12 rfl (by decide) ?_
    refine gx_callV (As := [.int (-10002)]) (st := []) hC (c_X3_fail l Y nb σ hM (-10002) 0 (by omega) (by decide)) kX3_fail wm_RX3_42 rfl hM.1 rfl rfl rfl rfl rfl dX3_addCell_15 rfl (gx_ki fun r15 τ15 hq15 => ?_)
    obtain ⟨rfl, rfl⟩ := hq15
    refine gx_iret hC dX3_addCell_18 ?_
    have hz : qaddCell (r, n, P, q, cn) v op x y = (-10002, qfail (r, n, P, q, cn) 0) := if_neg hb5
    rw [hz]
    exact ⟨rfl, hA.fail hM⟩

set_option maxRecDepth 100000 in
set_option maxHeartbeats 4000000 in
theorem c_X3_editCell (l : Launch) (Y : gL) (nb : Nat) (σ : gS) (r : Nat → Int32) (n : Nat) (P : Nat → Nat → Int32) (q : Nat) (cn : Nat → Int32) (hM : zLC Y nb) (hA : zA Y nb σ (r, n, P, q, cn)) (B : Nat) (hBB : B + 12 < 2 ^ 30) (hI : qAI (r, n, P, q, cn) B) (w v op x y : Int32) : gM l yX3_editCell cX3_editCell 8 (some .int) (gRm 7 148) Y [.ref nb, .int w, .int v, .int op, .int x, .int y] σ (gI fun z τ => (qeditCell (r, n, P, q, cn) w v op x y).1 = z ∧ zA Y nb τ (qeditCell (r, n, P, q, cn) w v op x y).2) := by
  have hH : zH Y nb σ P q cn := hA.1
  have hB : zB Y σ (gF Y nb 0) r n := hA.2.1
  have hL : zL Y σ (gF Y nb 0) r := hA.2.2.1
  have hG : zG Y σ (gF Y nb 4) (qg r n) := hA.2.2.2.1
  have hF : zM (σ.1 nb 5) (qF (qg r n) r) := hA.2.2.2.2
  have hc := hH.1.1 _ hM.2.1
  have hn : n ≤ 12 := hB.2.1
  have hgn : qn (qg r n) = n := rfl
  have hm := qm_le (qg r n)
  have hI1 : qRI r n B := hI.1
  refine gM.of (by decide) rfl ?_
  intro p e s m args below meth c hC
  have hX := hC.1
  refine gx_aload_n hX 0 dX3_editCell_0 rfl rfl ?_
  refine gx_iload_n hX 1 dX3_editCell_1 rfl rfl ?_
  refine gx_callV (As := [.int w]) (st := []) hC (c_X3_isCell l Y nb σ hM n hn hB.2.2.1 w) kX3_isCell wm_RX3_59 rfl hM.1 rfl rfl rfl rfl rfl dX3_editCell_2 rfl (gx_ki fun r2 τ2 hq2 => ?_)
  obtain ⟨rfl, ⟨rfl, hb2⟩ | ⟨rfl, hb2⟩⟩ := hq2
  · obtain ⟨i, hi, rfl⟩ := hb2
    refine gx_if_eq_f (tgt := 20) hX dX3_editCell_5 (by decide) rfl (by decide) ?_
    refine gx_iload_n hX 2 dX3_editCell_8 rfl rfl ?_
    refine gx_iload_n hX 3 dX3_editCell_9 rfl rfl ?_
    refine gx_iload hX 4 dX3_editCell_10 rfl rfl ?_
    refine gx_iload hX 5 dX3_editCell_12 rfl rfl ?_
    refine gx_callS (As := [.int v, .int op, .int x, .int y]) (st := []) hC (c_X3_isDefinition l Y σ v op x y) kX3_isDefinition wm_RX3_38 rfl rfl rfl rfl dX3_editCell_14 rfl (gx_ki fun r14 τ14 hq14 => ?_)
    obtain ⟨rfl, ⟨rfl, hb14⟩ | ⟨rfl, hb14⟩⟩ := hq14
    · refine gx_if_ne_t (tgt := 28) hX dX3_editCell_17 (by decide) (by decide) ?_
      refine gx_aload_n hX 0 dX3_editCell_28 rfl rfl ?_
      refine gx_callV (As := []) (st := []) hC (c_X3_save l Y nb σ hM P q cn hH r n hB hL) kX3_save wm_RX3_49 rfl hM.1 rfl rfl rfl rfl rfl dX3_editCell_29 rfl (gx_kv fun τ29 hq29 => ?_)
      have hH2 := hq29.1
      have hB2 := hq29.2.1
      have hL2 := hq29.2.2.1
      have hs2 := hq29.2.2.2.1
      have hc2 := hH2.1.1 _ hM.2.1
      have hS := hM.2.2.2.2.2
      have ht := hM.2.1
      refine gx_aload_n hX 0 dX3_editCell_32 rfl rfl ?_
      refine gx_get hC 0 inlX3 wf_RX3_12 rfl hM.1 rfl rfl rfl rfl dX3_editCell_33 rfl ?_
      refine gx_get hC 0 inlX2 wf_RX3_63 rfl hM.2.1 rfl rfl rfl rfl dX3_editCell_36 rfl ?_
      refine gx_iload_n hX 1 dX3_editCell_39 rfl rfl ?_
      refine gx_aaldc (i := i) hC ((hM.2.2.2.2.2 _ hM.2.1).1) rfl rfl (by omega) rfl dX3_editCell_40 rfl ?_
      refine gx_astore (lv' := [(6, .ref (τ29.2.1 (gF Y (gF Y nb 0) 0) i)), (0, .ref nb), (1, .int (nI i)), (2, .int v), (3, .int op), (4, .int x), (5, .int y)]) hX dX3_editCell_41 rfl (by decide) rfl ?_
      refine gx_aload hX 0 dX3_editCell_43 rfl rfl ?_
      refine gx_get hC 0 inlX0 wf_RX3_67 rfl ((hc2 i (by omega)).1) rfl rfl rfl rfl dX3_editCell_45 rfl ?_
      refine gx_topi (b := (r (17 + 10 * i + 0))) ((hB2.2.2.2.2.2.2 i hi).1) ?_
      refine gx_istore (lv' := [(7, .int (r (17 + 10 * i + 0))), (6, .ref (τ29.2.1 (gF Y (gF Y nb 0) 0) i)), (0, .ref nb), (1, .int (nI i)), (2, .int v), (3, .int op), (4, .int x), (5, .int y)]) hX dX3_editCell_48 rfl (by decide) rfl ?_
      refine gx_aload hX 1 dX3_editCell_50 rfl rfl ?_
      refine gx_iload_n hX 4 dX3_editCell_52 rfl rfl ?_
      refine gx_iload_n hX 5 dX3_editCell_53 rfl rfl ?_
      refine gx_iload hX 6 dX3_editCell_54 rfl rfl ?_
      refine gx_iload hX 7 dX3_editCell_56 rfl rfl ?_
      refine gx_callV (As := [.int v, .int op, .int x, .int y]) (st := []) hC (c_X0_define l Y (τ29.2.1 (gF Y (gF Y nb 0) 0) i) τ29 ((hc2 i (by omega)).1) v op x y) kX0_define wm_RX3_72 rfl ((hc2 i (by omega)).1) rfl rfl rfl rfl rfl dX3_editCell_58 rfl (gx_kv fun τ58 hq58 => ?_)
      obtain rfl := hq58
      refine gx_aload_n hX 2 dX3_editCell_61 rfl rfl ?_
      refine gx_callV (As := []) (st := []) hC (c_X3_finishEditing l Y nb (uI (uI (uI (uI (uI τ29 (τ29.2.1 (gF Y (gF Y nb 0) 0) i) 0 v) (τ29.2.1 (gF Y (gF Y nb 0) 0) i) 1 op) (τ29.2.1 (gF Y (gF Y nb 0) 0) i) 2 x) (τ29.2.1 (gF Y (gF Y nb 0) 0) i) 3 y) (τ29.2.1 (gF Y (gF Y nb 0) 0) i) 5 0) hM (qpush P q r) (qpn q) cn (zdefH hM hH2 (by omega)) (qdef (qsv r) i v op x y) n (zdefB hB2 ht hc2 hi) ((qdef_off (by omega)).trans qsv_4) B (qRI_def (qRI_sv hI1) hi hb14.1 hb14.2.2.1 hb14.2.2.2) hBB) kX3_finishEditing wm_RX3_56 rfl hM.1 rfl rfl rfl rfl rfl dX3_editCell_62 rfl (gx_kv fun τ62 hq62 => ?_)
      refine gx_iload hX 0 dX3_editCell_65 rfl rfl ?_
      refine gx_iret hC dX3_editCell_67 ?_
      have hz : qeditCell (r, n, P, q, cn) (nI i) v op x y = (r (17 + 10 * i + 0), qsave (r, n, P, q, cn) (qeag (qdef (qsv r) i v op x y) n) n) := (qcell_some hn hi).trans (if_pos hb14)
      rw [hz]
      exact ⟨rfl, hq62⟩
    · refine gx_if_ne_f (tgt := 28) hX dX3_editCell_17 (by decide) rfl (by decide) ?_
      refine gx_aload_n hX 0 dX3_editCell_20 rfl rfl ?_
      refine gx_sipush (v := (-10002)) hX dX3_editCell_21 rfl (by decide) ?_
      refine gx_callV (As := [.int (-10002)]) (st := []) hC (c_X3_fail l Y nb σ hM (-10002) 0 (by omega) (by decide)) kX3_fail wm_RX3_42 rfl hM.1 rfl rfl rfl rfl rfl dX3_editCell_24 rfl (gx_ki fun r24 τ24 hq24 => ?_)
      obtain ⟨rfl, rfl⟩ := hq24
      refine gx_iret hC dX3_editCell_27 ?_
      have hz : qeditCell (r, n, P, q, cn) (nI i) v op x y = (-10002, qfail (r, n, P, q, cn) 0) := (qcell_some hn hi).trans (if_neg hb14)
      rw [hz]
      exact ⟨rfl, hA.fail hM⟩
  · refine gx_if_eq_t (tgt := 20) hX dX3_editCell_5 (by decide) (by decide) ?_
    refine gx_aload_n hX 0 dX3_editCell_20 rfl rfl ?_
    refine gx_sipush (v := (-10002)) hX dX3_editCell_21 rfl (by decide) ?_
    refine gx_callV (As := [.int (-10002)]) (st := []) hC (c_X3_fail l Y nb σ hM (-10002) 0 (by omega) (by decide)) kX3_fail wm_RX3_42 rfl hM.1 rfl rfl rfl rfl rfl dX3_editCell_24 rfl (gx_ki fun r24 τ24 hq24 => ?_)
    obtain ⟨rfl, rfl⟩ := hq24
    refine gx_iret hC dX3_editCell_27 ?_
    have hz : qeditCell (r, n, P, q, cn) w v op x y = (-10002, qfail (r, n, P, q, cn) 0) := qcell_none hn hb2
    rw [hz]
    exact ⟨rfl, hA.fail hM⟩

set_option maxRecDepth 100000 in
set_option maxHeartbeats 4000000 in
theorem c_X3_deleteCell (l : Launch) (Y : gL) (nb : Nat) (σ : gS) (r : Nat → Int32) (n : Nat) (P : Nat → Nat → Int32) (q : Nat) (cn : Nat → Int32) (hM : zLC Y nb) (hA : zA Y nb σ (r, n, P, q, cn)) (B : Nat) (hBB : B + 12 < 2 ^ 30) (hI : qAI (r, n, P, q, cn) B) (w : Int32) : gM l yX3_deleteCell cX3_deleteCell 2 (some .int) (gRm 7 148) Y [.ref nb, .int w] σ (gI fun z τ => (qdeleteCell (r, n, P, q, cn) w).1 = z ∧ zA Y nb τ (qdeleteCell (r, n, P, q, cn) w).2) := by
  have hH : zH Y nb σ P q cn := hA.1
  have hB : zB Y σ (gF Y nb 0) r n := hA.2.1
  have hL : zL Y σ (gF Y nb 0) r := hA.2.2.1
  have hG : zG Y σ (gF Y nb 4) (qg r n) := hA.2.2.2.1
  have hF : zM (σ.1 nb 5) (qF (qg r n) r) := hA.2.2.2.2
  have hc := hH.1.1 _ hM.2.1
  have hn : n ≤ 12 := hB.2.1
  have hgn : qn (qg r n) = n := rfl
  have hm := qm_le (qg r n)
  have hI1 : qRI r n B := hI.1
  refine gM.of (by decide) rfl ?_
  intro p e s m args below meth c hC
  have hX := hC.1
  refine gx_aload_n hX 0 dX3_deleteCell_0 rfl rfl ?_
  refine gx_iload_n hX 1 dX3_deleteCell_1 rfl rfl ?_
  refine gx_callV (As := [.int w]) (st := []) hC (c_X3_isCell l Y nb σ hM n hn hB.2.2.1 w) kX3_isCell wm_RX3_59 rfl hM.1 rfl rfl rfl rfl rfl dX3_deleteCell_2 rfl (gx_ki fun r2 τ2 hq2 => ?_)
  obtain ⟨rfl, ⟨rfl, hb2⟩ | ⟨rfl, hb2⟩⟩ := hq2
  · obtain ⟨i, hi, rfl⟩ := hb2
    refine gx_if_ne_t (tgt := 16) hX dX3_deleteCell_5 (by decide) (by decide) ?_
    refine gx_aload_n hX 0 dX3_deleteCell_16 rfl rfl ?_
    refine gx_callV (As := []) (st := []) hC (c_X3_save l Y nb σ hM P q cn hH r n hB hL) kX3_save wm_RX3_49 rfl hM.1 rfl rfl rfl rfl rfl dX3_deleteCell_17 rfl (gx_kv fun τ17 hq17 => ?_)
    have hH2 := hq17.1
    have hB2 := hq17.2.1
    have hL2 := hq17.2.2.1
    have hs2 := hq17.2.2.2.1
    have hc2 := hH2.1.1 _ hM.2.1
    have hS := hM.2.2.2.2.2
    have ht := hM.2.1
    refine gx_aload_n hX 0 dX3_deleteCell_20 rfl rfl ?_
    refine gx_get hC 0 inlX3 wf_RX3_12 rfl hM.1 rfl rfl rfl rfl dX3_deleteCell_21 rfl ?_
    refine gx_iload_n hX 1 dX3_deleteCell_24 rfl rfl ?_
    refine gx_callV (As := [.int (nI i)]) (st := []) hC (c_X2_remove l Y (gF Y nb 0) τ17 hS ht hc2 n i hn hB2.2.2.1 hi) kX2_remove wm_RX3_75 rfl hM.2.1 rfl rfl rfl rfl rfl dX3_deleteCell_25 rfl (gx_kv fun τ25 hq25 => ?_)
    obtain ⟨ω, hmv, hω⟩ := hq25
    have hHm := hmv.H hM hH2 (show i < 12 by omega) (show n - 1 < 12 by omega)
    have hB3 := hmv.del hω hB2 ht (hHm.1.1 _ ht) hi
    have hH3 : zH Y nb τ25 (qpush P q r) (qpn q) cn := by rw [← hω]; exact zputH hM hHm
    refine gx_aload_n hX 0 dX3_deleteCell_28 rfl rfl ?_
    refine gx_callV (As := []) (st := []) hC (c_X3_finishEditing l Y nb τ25 hM (qpush P q r) (qpn q) cn hH3 (qshl (qup (qsv r) 0 (nI (n - 1))) i (n - 1)) (n - 1) hB3 ((qshl_low (by omega)).trans ((qup_off (by omega)).trans qsv_4)) B (qRI_del (qRI_sv hI1) hi) hBB) kX3_finishEditing wm_RX3_56 rfl hM.1 rfl rfl rfl rfl rfl dX3_deleteCell_29 rfl (gx_kv fun τ29 hq29 => ?_)
    refine gx_aload_n hX 0 dX3_deleteCell_32 rfl rfl ?_
    refine gx_get hC 0 inlX3 wf_RX3_12 rfl hM.1 rfl rfl rfl rfl dX3_deleteCell_33 rfl ?_
    refine gx_get hC 1 inlX2 wf_RX3_46 rfl hM.2.1 rfl rfl rfl rfl dX3_deleteCell_36 rfl ?_
    refine gx_topi (b := (nI (n - 1))) hq29.2.1.2.2.1 ?_
    refine gx_iret hC dX3_deleteCell_39 ?_
    have hz : qdeleteCell (r, n, P, q, cn) (nI i) = (nI (n - 1), qsave (r, n, P, q, cn) (qeag (qshl (qup (qsv r) 0 (nI (n - 1))) i (n - 1)) (n - 1)) (n - 1)) := qcell_some hn hi
    rw [hz]
    exact ⟨rfl, hq29⟩
  · refine gx_if_ne_f (tgt := 16) hX dX3_deleteCell_5 (by decide) rfl (by decide) ?_
    refine gx_aload_n hX 0 dX3_deleteCell_8 rfl rfl ?_
    refine gx_sipush (v := (-10002)) hX dX3_deleteCell_9 rfl (by decide) ?_
    refine gx_callV (As := [.int (-10002)]) (st := []) hC (c_X3_fail l Y nb σ hM (-10002) 0 (by omega) (by decide)) kX3_fail wm_RX3_42 rfl hM.1 rfl rfl rfl rfl rfl dX3_deleteCell_12 rfl (gx_ki fun r12 τ12 hq12 => ?_)
    obtain ⟨rfl, rfl⟩ := hq12
    refine gx_iret hC dX3_deleteCell_15 ?_
    have hz : qdeleteCell (r, n, P, q, cn) w = (-10002, qfail (r, n, P, q, cn) 0) := qcell_none hn hb2
    rw [hz]
    exact ⟨rfl, hA.fail hM⟩

set_option maxRecDepth 100000 in
set_option maxHeartbeats 4000000 in
theorem c_X3_moveCell (l : Launch) (Y : gL) (nb : Nat) (σ : gS) (r : Nat → Int32) (n : Nat) (P : Nat → Nat → Int32) (q : Nat) (cn : Nat → Int32) (hM : zLC Y nb) (hA : zA Y nb σ (r, n, P, q, cn)) (B : Nat) (hBB : B + 12 < 2 ^ 30) (hI : qAI (r, n, P, q, cn) B) (w w2 : Int32) : gM l yX3_moveCell cX3_moveCell 3 (some .int) (gRm 7 148) Y [.ref nb, .int w, .int w2] σ (gI fun z τ => (qmoveCell (r, n, P, q, cn) w w2).1 = z ∧ zA Y nb τ (qmoveCell (r, n, P, q, cn) w w2).2) := by
  have hH : zH Y nb σ P q cn := hA.1
  have hB : zB Y σ (gF Y nb 0) r n := hA.2.1
  have hL : zL Y σ (gF Y nb 0) r := hA.2.2.1
  have hG : zG Y σ (gF Y nb 4) (qg r n) := hA.2.2.2.1
  have hF : zM (σ.1 nb 5) (qF (qg r n) r) := hA.2.2.2.2
  have hc := hH.1.1 _ hM.2.1
  have hn : n ≤ 12 := hB.2.1
  have hgn : qn (qg r n) = n := rfl
  have hm := qm_le (qg r n)
  have hI1 : qRI r n B := hI.1
  refine gM.of (by decide) rfl ?_
  intro p e s m args below meth c hC
  have hX := hC.1
  refine gx_aload_n hX 0 dX3_moveCell_0 rfl rfl ?_
  refine gx_iload_n hX 1 dX3_moveCell_1 rfl rfl ?_
  refine gx_callV (As := [.int w]) (st := []) hC (c_X3_isCell l Y nb σ hM n hn hB.2.2.1 w) kX3_isCell wm_RX3_59 rfl hM.1 rfl rfl rfl rfl rfl dX3_moveCell_2 rfl (gx_ki fun r2 τ2 hq2 => ?_)
  obtain ⟨rfl, ⟨rfl, hb2⟩ | ⟨rfl, hb2⟩⟩ := hq2
  · obtain ⟨i, hi, rfl⟩ := hb2
    refine gx_if_eq_f (tgt := 16) hX dX3_moveCell_5 (by decide) rfl (by decide) ?_
    refine gx_aload_n hX 0 dX3_moveCell_8 rfl rfl ?_
    refine gx_iload_n hX 2 dX3_moveCell_9 rfl rfl ?_
    refine gx_callV (As := [.int w2]) (st := []) hC (c_X3_isCell l Y nb σ hM n hn hB.2.2.1 w2) kX3_isCell wm_RX3_59 rfl hM.1 rfl rfl rfl rfl rfl dX3_moveCell_10 rfl (gx_ki fun r10 τ10 hq10 => ?_)
    obtain ⟨rfl, ⟨rfl, hb10⟩ | ⟨rfl, hb10⟩⟩ := hq10
    · obtain ⟨j, hj, rfl⟩ := hb10
      refine gx_if_ne_t (tgt := 24) hX dX3_moveCell_13 (by decide) (by decide) ?_
      refine gx_aload_n hX 0 dX3_moveCell_24 rfl rfl ?_
      refine gx_callV (As := []) (st := []) hC (c_X3_save l Y nb σ hM P q cn hH r n hB hL) kX3_save wm_RX3_49 rfl hM.1 rfl rfl rfl rfl rfl dX3_moveCell_25 rfl (gx_kv fun τ25 hq25 => ?_)
      have hH2 := hq25.1
      have hB2 := hq25.2.1
      have hL2 := hq25.2.2.1
      have hs2 := hq25.2.2.2.1
      have hc2 := hH2.1.1 _ hM.2.1
      have hS := hM.2.2.2.2.2
      have ht := hM.2.1
      refine gx_aload_n hX 0 dX3_moveCell_28 rfl rfl ?_
      refine gx_get hC 0 inlX3 wf_RX3_12 rfl hM.1 rfl rfl rfl rfl dX3_moveCell_29 rfl ?_
      refine gx_iload_n hX 1 dX3_moveCell_32 rfl rfl ?_
      refine gx_iload_n hX 2 dX3_moveCell_33 rfl rfl ?_
      refine gx_callV (As := [.int (nI i), .int (nI j)]) (st := []) hC (c_X2_move l Y (gF Y nb 0) τ25 hS ht hc2 i j (by omega) (by omega)) kX2_move wm_RX3_79 rfl hM.2.1 rfl rfl rfl rfl rfl dX3_moveCell_34 rfl (gx_kv fun τ34 hq34 => ?_)
      refine gx_aload_n hX 0 dX3_moveCell_37 rfl rfl ?_
      refine gx_callV (As := []) (st := []) hC (c_X3_finishEditing l Y nb τ34 hM (qpush P q r) (qpn q) cn (hq34.H hM hH2 (by omega) (by omega)) (qmv (qsv r) i j) n (hq34.B hB2 hi hj) ((qmv_low (by omega)).trans qsv_4) B (qRI_mv (qRI_sv hI1) hi hj) hBB) kX3_finishEditing wm_RX3_56 rfl hM.1 rfl rfl rfl rfl rfl dX3_moveCell_38 rfl (gx_kv fun τ38 hq38 => ?_)
      refine gx_iload_n hX 1 dX3_moveCell_41 rfl rfl ?_
      refine gx_iload_n hX 2 dX3_moveCell_42 rfl rfl ?_
      refine gx_nat_ne (i := i) (j := j) (tgt := 50) hX dX3_moveCell_43 (by decide) rfl rfl rfl (by omega) (by omega) (fun h43 => ?_) (fun h43 => ?_)
      · refine gx_iload_n hX 2 dX3_moveCell_50 rfl rfl ?_
        refine gx_iload_n hX 1 dX3_moveCell_51 rfl rfl ?_
        refine gx_isub hX dX3_moveCell_52 rfl ?_
        refine gx_mabs hC wm_RX3_83 rfl dX3_moveCell_53 rfl ?_
        refine gx_iconst (v := 1) hX dX3_moveCell_56 rfl (by decide) ?_
        refine gx_iadd hX dX3_moveCell_57 rfl ?_
        refine gx_iret hC dX3_moveCell_58 ?_
        have hz : qmoveCell (r, n, P, q, cn) (nI i) (nI j) = (nI (if i = j then 0 else if i < j then j - i + 1 else i - j + 1), qsave (r, n, P, q, cn) (qeag (qmv (qsv r) i j) n) n) := (qcell_some hn hi).trans (qcell_some hn hj)
        rw [hz]
        exact ⟨(zabs i (by omega) j (by omega) h43).symm, hq38⟩
      · refine gx_iconst (v := 0) hX dX3_moveCell_46 rfl (by decide) ?_
        refine gx_goto (pc' := 58) hX dX3_moveCell_47 (by decide) ?_
        refine gx_iret hC dX3_moveCell_58 ?_
        have hz : qmoveCell (r, n, P, q, cn) (nI i) (nI j) = (nI (if i = j then 0 else if i < j then j - i + 1 else i - j + 1), qsave (r, n, P, q, cn) (qeag (qmv (qsv r) i j) n) n) := (qcell_some hn hi).trans (qcell_some hn hj)
        rw [hz]
        exact ⟨by show nI (if i = j then 0 else if i < j then j - i + 1 else i - j + 1) = 0; rw [if_pos h43]; rfl, hq38⟩
    · refine gx_if_ne_f (tgt := 24) hX dX3_moveCell_13 (by decide) rfl (by decide) ?_
      refine gx_aload_n hX 0 dX3_moveCell_16 rfl rfl ?_
      refine gx_sipush (v := (-10002)) hX dX3_moveCell_17 rfl (by decide) ?_
      refine gx_callV (As := [.int (-10002)]) (st := []) hC (c_X3_fail l Y nb σ hM (-10002) 0 (by omega) (by decide)) kX3_fail wm_RX3_42 rfl hM.1 rfl rfl rfl rfl rfl dX3_moveCell_20 rfl (gx_ki fun r20 τ20 hq20 => ?_)
      obtain ⟨rfl, rfl⟩ := hq20
      refine gx_iret hC dX3_moveCell_23 ?_
      have hz : qmoveCell (r, n, P, q, cn) (nI i) w2 = (-10002, qfail (r, n, P, q, cn) 0) := (qcell_some hn hi).trans (qcell_none hn hb10)
      rw [hz]
      exact ⟨rfl, hA.fail hM⟩
  · refine gx_if_eq_t (tgt := 16) hX dX3_moveCell_5 (by decide) (by decide) ?_
    refine gx_aload_n hX 0 dX3_moveCell_16 rfl rfl ?_
    refine gx_sipush (v := (-10002)) hX dX3_moveCell_17 rfl (by decide) ?_
    refine gx_callV (As := [.int (-10002)]) (st := []) hC (c_X3_fail l Y nb σ hM (-10002) 0 (by omega) (by decide)) kX3_fail wm_RX3_42 rfl hM.1 rfl rfl rfl rfl rfl dX3_moveCell_20 rfl (gx_ki fun r20 τ20 hq20 => ?_)
    obtain ⟨rfl, rfl⟩ := hq20
    refine gx_iret hC dX3_moveCell_23 ?_
    have hz : qmoveCell (r, n, P, q, cn) w w2 = (-10002, qfail (r, n, P, q, cn) 0) := qcell_none hn hb2
    rw [hz]
    exact ⟨rfl, hA.fail hM⟩

set_option maxRecDepth 100000 in
set_option maxHeartbeats 4000000 in
theorem c_X3_setEager (l : Launch) (Y : gL) (nb : Nat) (σ : gS) (r : Nat → Int32) (n : Nat) (P : Nat → Nat → Int32) (q : Nat) (cn : Nat → Int32) (hM : zLC Y nb) (hA : zA Y nb σ (r, n, P, q, cn)) (B : Nat) (hBB : B + 12 < 2 ^ 30) (hI : qAI (r, n, P, q, cn) B) (x : Int32) : gM l yX3_setEager cX3_setEager 3 (some .int) (gRm 7 148) Y [.ref nb, .int x] σ (gI fun z τ => (qsetEager (r, n, P, q, cn) x).1 = z ∧ zA Y nb τ (qsetEager (r, n, P, q, cn) x).2) := by
  have hH : zH Y nb σ P q cn := hA.1
  have hB : zB Y σ (gF Y nb 0) r n := hA.2.1
  have hL : zL Y σ (gF Y nb 0) r := hA.2.2.1
  have hG : zG Y σ (gF Y nb 4) (qg r n) := hA.2.2.2.1
  have hF : zM (σ.1 nb 5) (qF (qg r n) r) := hA.2.2.2.2
  have hc := hH.1.1 _ hM.2.1
  have hn : n ≤ 12 := hB.2.1
  have hgn : qn (qg r n) = n := rfl
  have hm := qm_le (qg r n)
  have hI1 : qRI r n B := hI.1
  refine gM.of (by decide) rfl ?_
  intro p e s m args below meth c hC
  have hX := hC.1
  have J17 : ∀ (u : Unit), (x = 0 ∨ x = 1) → gG p l e (gRm 7 148) s m args below meth c Y (gI fun z τ => (qsetEager (r, n, P, q, cn) x).1 = z ∧ zA Y nb τ (qsetEager (r, n, P, q, cn) x).2) σ 17 [(0, .ref nb), (1, .int x)] [] := by
    intro u he
    refine gx_aload_n hX 0 dX3_setEager_17 rfl rfl ?_
    refine gx_callV (As := []) (st := []) hC (c_X3_save l Y nb σ hM P q cn hH r n hB hL) kX3_save wm_RX3_49 rfl hM.1 rfl rfl rfl rfl rfl dX3_setEager_18 rfl (gx_kv fun τ18 hq18 => ?_)
    have hH2 := hq18.1
    have hB2 := hq18.2.1
    have hL2 := hq18.2.2.1
    have hs2 := hq18.2.2.2.1
    have hc2 := hH2.1.1 _ hM.2.1
    have hS := hM.2.2.2.2.2
    have ht := hM.2.1
    refine gx_aload_n hX 0 dX3_setEager_21 rfl rfl ?_
    refine gx_get hC 0 inlX3 wf_RX3_12 rfl hM.1 rfl rfl rfl rfl dX3_setEager_22 rfl ?_
    refine gx_get hC 2 inlX2 wf_RX3_88 rfl hM.2.1 rfl rfl rfl rfl dX3_setEager_25 rfl ?_
    refine gx_topi (b := (r 1)) hB2.2.2.2.1 ?_
    refine gx_istore_n (lv' := [(2, .int (r 1)), (0, .ref nb), (1, .int x)]) hX dX3_setEager_28 rfl (by decide) rfl ?_
    refine gx_aload_n hX 1 dX3_setEager_29 rfl rfl ?_
    refine gx_get hC 0 inlX3 wf_RX3_12 rfl hM.1 rfl rfl rfl rfl dX3_setEager_30 rfl ?_
    refine gx_iload_n hX 2 dX3_setEager_33 rfl rfl ?_
    refine gx_put (τ := uI τ18 (gF Y nb 0) 2 x) hC 2 inlX2 tyX2_ok nmX2 wf_RX3_88 rfl hM.2.1 rfl rfl (by simp [gE, uI]) (fun b hb => gEnt_I hb) rfl rfl rfl rfl rfl rfl rfl dX3_setEager_34 rfl ?_
    refine gx_aload_n hX 1 dX3_setEager_37 rfl rfl ?_
    refine gx_callV (As := []) (st := []) hC (c_X3_finishEditing l Y nb (uI τ18 (gF Y nb 0) 2 x) hM (qpush P q r) (qpn q) cn (zputH hM hH2) (qup (qsv r) 1 x) n (zsetB hB2 ht hc2) ((qup_off (by omega)).trans qsv_4) B (qRI_set (qRI_sv hI1) he) hBB) kX3_finishEditing wm_RX3_56 rfl hM.1 rfl rfl rfl rfl rfl dX3_setEager_38 rfl (gx_kv fun τ38 hq38 => ?_)
    refine gx_iload_n hX 0 dX3_setEager_41 rfl rfl ?_
    refine gx_iret hC dX3_setEager_42 ?_
    have hz : qsetEager (r, n, P, q, cn) x = (r 1, qsave (r, n, P, q, cn) (qeag (qup (qsv r) 1 x) n) n) := if_pos (by rcases he with rfl | rfl <;> decide)
    rw [hz]
    exact ⟨rfl, hq38⟩
  refine gx_iload_n hX 1 dX3_setEager_0 rfl rfl ?_
  refine gx_if_eq (tgt := 17) hX dX3_setEager_1 (by decide) rfl (fun h1 => ?_) (fun h1 => ?_)
  · exact gx_sub [0, 1] rfl (J17 () (by first | exact Or.inl h1 | exact Or.inr h6))
  · refine gx_iload_n hX 1 dX3_setEager_4 rfl rfl ?_
    refine gx_iconst (v := 1) hX dX3_setEager_5 rfl (by decide) ?_
    refine gx_icmp_eq (tgt := 17) hX dX3_setEager_6 (by decide) rfl (fun h6 => ?_) (fun h6 => ?_)
    · exact gx_sub [0, 1] rfl (J17 () (by first | exact Or.inl h1 | exact Or.inr h6))
    · refine gx_aload_n hX 0 dX3_setEager_9 rfl rfl ?_
      refine gx_sipush (v := (-10002)) hX dX3_setEager_10 rfl (by decide) ?_
      refine gx_callV (As := [.int (-10002)]) (st := []) hC (c_X3_fail l Y nb σ hM (-10002) 0 (by omega) (by decide)) kX3_fail wm_RX3_42 rfl hM.1 rfl rfl rfl rfl rfl dX3_setEager_13 rfl (gx_ki fun r13 τ13 hq13 => ?_)
      obtain ⟨rfl, rfl⟩ := hq13
      refine gx_iret hC dX3_setEager_16 ?_
      have hz : qsetEager (r, n, P, q, cn) x = (-10002, qfail (r, n, P, q, cn) 0) := if_neg (fun z => (qe01 z).elim h1 h6)
      rw [hz]
      exact ⟨rfl, hA.fail hM⟩

set_option maxRecDepth 100000 in
set_option maxHeartbeats 4000000 in
theorem c_X3_runStale (l : Launch) (Y : gL) (nb : Nat) (σ : gS) (r : Nat → Int32) (n : Nat) (P : Nat → Nat → Int32) (q : Nat) (cn : Nat → Int32) (hM : zLC Y nb) (hA : zA Y nb σ (r, n, P, q, cn)) (B : Nat) (hBB : B + 12 < 2 ^ 30) (hI : qAI (r, n, P, q, cn) B) : gM l yX3_runStale cX3_runStale 1 (some .int) (gRm 5 110) Y [.ref nb] σ (gI fun z τ => (qrunStale (r, n, P, q, cn)).1 = z ∧ zA Y nb τ (qrunStale (r, n, P, q, cn)).2) := by
  have hH : zH Y nb σ P q cn := hA.1
  have hB : zB Y σ (gF Y nb 0) r n := hA.2.1
  have hL : zL Y σ (gF Y nb 0) r := hA.2.2.1
  have hG : zG Y σ (gF Y nb 4) (qg r n) := hA.2.2.2.1
  have hF : zM (σ.1 nb 5) (qF (qg r n) r) := hA.2.2.2.2
  have hc := hH.1.1 _ hM.2.1
  have hn : n ≤ 12 := hB.2.1
  have hgn : qn (qg r n) = n := rfl
  have hm := qm_le (qg r n)
  have hI1 : qRI r n B := hI.1
  have hGs : zG Y σ (gF Y nb 4) (qg (qsv r) n) := by rw [qg_sv]; exact hG
  refine gM.of (by decide) rfl ?_
  intro p e s m args below meth c hC
  have hX := hC.1
  refine gx_aload_n hX 0 dX3_runStale_0 rfl rfl ?_
  refine gx_callV (As := []) (st := []) hC (c_X3_save l Y nb σ hM P q cn hH r n hB hL) kX3_save wm_RX3_49 rfl hM.1 rfl rfl rfl rfl rfl dX3_runStale_1 rfl (gx_kv fun τ1 hq1 => ?_)
  have hH2 := hq1.1
  have hB2 := hq1.2.1
  have hL2 := hq1.2.2.1
  have hs2 := hq1.2.2.2.1
  have hc2 := hH2.1.1 _ hM.2.1
  have hS := hM.2.2.2.2.2
  have ht := hM.2.1
  refine gx_aload_n hX 0 dX3_runStale_4 rfl rfl ?_
  refine gx_callV (As := []) (st := []) hC (c_X3_startLastRun l Y nb τ1 hM) kX3_startLastRun wm_RX3_91 rfl hM.1 rfl rfl rfl rfl rfl dX3_runStale_5 rfl (gx_kv fun τ5 hq5 => ?_)
  obtain rfl := hq5
  refine gx_aload_n hX 0 dX3_runStale_8 rfl rfl ?_
  refine gx_sipush (v := 4095) hX dX3_runStale_9 rfl (by decide) ?_
  refine gx_callV (As := [.int 4095]) (st := []) hC (c_X3_walkRunOrder l Y nb (uI τ1 (gF Y nb 0) 6 0) (qg (qsv r) n) hM hn (qsv r) rfl (qpush P q r) (qpn q) cn (zputH hM hH2) (zslB hB2 ht hc2) zslL (zslG hM hGs hs2) 4095 (zWk_of hn hBB (qRI_sv hI1) qsv_4 (zcl_by z4095)) ⟨(qrt_inv hn hBB (qRI_sv hI1) qsv_4 (zcl_by z4095)).2.1, (qrt_inv hn hBB (qRI_sv hI1) qsv_4 (zcl_by z4095)).2.2⟩) kX3_walkRunOrder wm_RX3_94 rfl hM.1 rfl rfl rfl rfl rfl dX3_runStale_12 rfl (gx_kv fun τ12 hq12 => ?_)
  have hE := zall hn hq12
  refine gx_aload_n hX 0 dX3_runStale_15 rfl rfl ?_
  refine gx_get hC 0 inlX3 wf_RX3_12 rfl hM.1 rfl rfl rfl rfl dX3_runStale_16 rfl ?_
  refine gx_get hC 6 inlX2 wf_RX3_97 rfl hM.2.1 rfl rfl rfl rfl dX3_runStale_19 rfl ?_
  refine gx_topi (b := (qrt (qsv r) n (-1) 4)) hE.2.2.1.cnt ?_
  exact gx_iret hC dX3_runStale_22 (⟨rfl, hE⟩)

set_option maxRecDepth 100000 in
set_option maxHeartbeats 4000000 in
theorem c_X3_runCell (l : Launch) (Y : gL) (nb : Nat) (σ : gS) (r : Nat → Int32) (n : Nat) (P : Nat → Nat → Int32) (q : Nat) (cn : Nat → Int32) (hM : zLC Y nb) (hA : zA Y nb σ (r, n, P, q, cn)) (B : Nat) (hBB : B + 12 < 2 ^ 30) (hI : qAI (r, n, P, q, cn) B) (w : Int32) : gM l yX3_runCell cX3_runCell 2 (some .int) (gRm 5 110) Y [.ref nb, .int w] σ (gI fun z τ => (qrunCell (r, n, P, q, cn) w).1 = z ∧ zA Y nb τ (qrunCell (r, n, P, q, cn) w).2) := by
  have hH : zH Y nb σ P q cn := hA.1
  have hB : zB Y σ (gF Y nb 0) r n := hA.2.1
  have hL : zL Y σ (gF Y nb 0) r := hA.2.2.1
  have hG : zG Y σ (gF Y nb 4) (qg r n) := hA.2.2.2.1
  have hF : zM (σ.1 nb 5) (qF (qg r n) r) := hA.2.2.2.2
  have hc := hH.1.1 _ hM.2.1
  have hn : n ≤ 12 := hB.2.1
  have hgn : qn (qg r n) = n := rfl
  have hm := qm_le (qg r n)
  have hI1 : qRI r n B := hI.1
  have hGs : zG Y σ (gF Y nb 4) (qg (qsv r) n) := by rw [qg_sv]; exact hG
  refine gM.of (by decide) rfl ?_
  intro p e s m args below meth c hC
  have hX := hC.1
  refine gx_aload_n hX 0 dX3_runCell_0 rfl rfl ?_
  refine gx_iload_n hX 1 dX3_runCell_1 rfl rfl ?_
  refine gx_callV (As := [.int w]) (st := []) hC (c_X3_isCell l Y nb σ hM n hn hB.2.2.1 w) kX3_isCell wm_RX3_59 rfl hM.1 rfl rfl rfl rfl rfl dX3_runCell_2 rfl (gx_ki fun r2 τ2 hq2 => ?_)
  obtain ⟨rfl, ⟨rfl, hb2⟩ | ⟨rfl, hb2⟩⟩ := hq2
  · obtain ⟨i, hi, rfl⟩ := hb2
    refine gx_if_ne_t (tgt := 16) hX dX3_runCell_5 (by decide) (by decide) ?_
    refine gx_aload_n hX 0 dX3_runCell_16 rfl rfl ?_
    refine gx_get hC 4 inlX3 wf_RX3_31 rfl hM.1 rfl rfl rfl rfl dX3_runCell_17 rfl ?_
    refine gx_get hC 4 inlX1 wf_RX3_100 rfl hM.2.2.2.2.1.1 rfl rfl rfl rfl dX3_runCell_20 rfl ?_
    refine gx_iload_n hX 1 dX3_runCell_23 rfl rfl ?_
    refine gx_iald (i := i) hC hM.2.2.2.2.1.2.2.2.2.2.1 rfl rfl (by omega) rfl dX3_runCell_24 rfl ?_
    refine gx_topi (b := (qw (qg r n) i)) (hG.2.2.2.2.1 i hi) ?_
    refine gx_if_eq (tgt := 36) hX dX3_runCell_25 (by decide) rfl (fun h25 => ?_) (fun h25 => ?_)
    · refine gx_aload_n hX 0 dX3_runCell_36 rfl rfl ?_
      refine gx_callV (As := []) (st := []) hC (c_X3_save l Y nb σ hM P q cn hH r n hB hL) kX3_save wm_RX3_49 rfl hM.1 rfl rfl rfl rfl rfl dX3_runCell_37 rfl (gx_kv fun τ37 hq37 => ?_)
      have hH2 := hq37.1
      have hB2 := hq37.2.1
      have hL2 := hq37.2.2.1
      have hs2 := hq37.2.2.2.1
      have hc2 := hH2.1.1 _ hM.2.1
      have hS := hM.2.2.2.2.2
      have ht := hM.2.1
      refine gx_aload_n hX 0 dX3_runCell_40 rfl rfl ?_
      refine gx_callV (As := []) (st := []) hC (c_X3_startLastRun l Y nb τ37 hM) kX3_startLastRun wm_RX3_91 rfl hM.1 rfl rfl rfl rfl rfl dX3_runCell_41 rfl (gx_kv fun τ41 hq41 => ?_)
      obtain rfl := hq41
      refine gx_aload_n hX 0 dX3_runCell_44 rfl rfl ?_
      refine gx_aload_n hX 0 dX3_runCell_45 rfl rfl ?_
      refine gx_get hC 4 inlX3 wf_RX3_31 rfl hM.1 rfl rfl rfl rfl dX3_runCell_46 rfl ?_
      refine gx_get hC 3 inlX1 wf_RX3_103 rfl hM.2.2.2.2.1.1 rfl rfl rfl rfl dX3_runCell_49 rfl ?_
      refine gx_iload_n hX 1 dX3_runCell_52 rfl rfl ?_
      refine gx_iald (i := i) hC hM.2.2.2.2.1.2.2.2.2.1 rfl rfl (by omega) rfl dX3_runCell_53 rfl ?_
      refine gx_topi (b := (σ.1 (gF Y (gF Y nb 4) 3) i)) (congrFun ((uI_ne (gK_ne hM.2.2.2.2.1.2.2.2.2.1 hM.2.1 (by decide))).trans (hs2 _ (by rw [hM.2.2.2.2.1.2.2.2.2.1]; decide))) i) ?_
      have hset : ∀ d, d < n → qt (qset (qg r n) i) d = qt (σ.1 (gF Y (gF Y nb 4) 3) i ||| ((1 : Int32) <<< (nI i &&& 31))) d := qset_arr (g := qg r n) hn hi (fun d hd => hG.2.2.2.1 i d hi hd)
      have hcls : qcl (qg (qsv r) n) (σ.1 (gF Y (gF Y nb 4) 3) i ||| ((1 : Int32) <<< (nI i &&& 31))) := by rw [qg_sv]; exact qcl_congr (g := qg r n) hn hset (qcl_set (g := qg r n) hn hi)
      have hqe : qrt (qsv r) n (qset (qg r n) i) = qrt (qsv r) n (σ.1 (gF Y (gF Y nb 4) 3) i ||| ((1 : Int32) <<< (nI i &&& 31))) := qrt_congr hset
      refine gx_iconst (v := 1) hX dX3_runCell_54 rfl (by decide) ?_
      refine gx_iload_n hX 1 dX3_runCell_55 rfl rfl ?_
      refine gx_ishl hX dX3_runCell_56 rfl ?_
      refine gx_ior hX dX3_runCell_57 rfl ?_
      refine gx_topi (b := (σ.1 (gF Y (gF Y nb 4) 3) i ||| ((1 : Int32) <<< (nI i &&& 31)))) rfl ?_
      refine gx_callV (As := [.int (σ.1 (gF Y (gF Y nb 4) 3) i ||| ((1 : Int32) <<< (nI i &&& 31)))]) (st := []) hC (c_X3_walkRunOrder l Y nb (uI τ37 (gF Y nb 0) 6 0) (qg (qsv r) n) hM hn (qsv r) rfl (qpush P q r) (qpn q) cn (zputH hM hH2) (zslB hB2 ht hc2) zslL (zslG hM hGs hs2) (σ.1 (gF Y (gF Y nb 4) 3) i ||| ((1 : Int32) <<< (nI i &&& 31))) (zWk_of hn hBB (qRI_sv hI1) qsv_4 hcls) ⟨(qrt_inv hn hBB (qRI_sv hI1) qsv_4 hcls).2.1, (qrt_inv hn hBB (qRI_sv hI1) qsv_4 hcls).2.2⟩) kX3_walkRunOrder wm_RX3_94 rfl hM.1 rfl rfl rfl rfl rfl dX3_runCell_58 rfl (gx_kv fun τ58 hq58 => ?_)
      have hE : zA Y nb τ58 (qrt (qsv r) n (qset (qg r n) i), n, (qpush P q r), (qpn q), cn) := by rw [hqe]; exact hq58
      refine gx_aload_n hX 0 dX3_runCell_61 rfl rfl ?_
      refine gx_get hC 0 inlX3 wf_RX3_12 rfl hM.1 rfl rfl rfl rfl dX3_runCell_62 rfl ?_
      refine gx_get hC 6 inlX2 wf_RX3_97 rfl hM.2.1 rfl rfl rfl rfl dX3_runCell_65 rfl ?_
      refine gx_topi (b := (qrt (qsv r) n (qset (qg r n) i) 4)) hE.2.2.1.cnt ?_
      refine gx_iret hC dX3_runCell_68 ?_
      have hz : qrunCell (r, n, P, q, cn) (nI i) = (qrt (qsv r) n (qset (qg r n) i) 4, qsave (r, n, P, q, cn) (qrt (qsv r) n (qset (qg r n) i)) n) := (qcell_some hn hi).trans (if_pos h25)
      rw [hz]
      exact ⟨rfl, hE⟩
    · refine gx_aload_n hX 0 dX3_runCell_28 rfl rfl ?_
      refine gx_sipush (v := (-10003)) hX dX3_runCell_29 rfl (by decide) ?_
      refine gx_callV (As := [.int (-10003)]) (st := []) hC (c_X3_fail l Y nb σ hM (-10003) 1 (by omega) (by decide)) kX3_fail wm_RX3_42 rfl hM.1 rfl rfl rfl rfl rfl dX3_runCell_32 rfl (gx_ki fun r32 τ32 hq32 => ?_)
      obtain ⟨rfl, rfl⟩ := hq32
      refine gx_iret hC dX3_runCell_35 ?_
      have hz : qrunCell (r, n, P, q, cn) (nI i) = (-10003, qfail (r, n, P, q, cn) 1) := (qcell_some hn hi).trans (if_neg h25)
      rw [hz]
      exact ⟨rfl, hA.fail hM⟩
  · refine gx_if_ne_f (tgt := 16) hX dX3_runCell_5 (by decide) rfl (by decide) ?_
    refine gx_aload_n hX 0 dX3_runCell_8 rfl rfl ?_
    refine gx_sipush (v := (-10002)) hX dX3_runCell_9 rfl (by decide) ?_
    refine gx_callV (As := [.int (-10002)]) (st := []) hC (c_X3_fail l Y nb σ hM (-10002) 0 (by omega) (by decide)) kX3_fail wm_RX3_42 rfl hM.1 rfl rfl rfl rfl rfl dX3_runCell_12 rfl (gx_ki fun r12 τ12 hq12 => ?_)
    obtain ⟨rfl, rfl⟩ := hq12
    refine gx_iret hC dX3_runCell_15 ?_
    have hz : qrunCell (r, n, P, q, cn) w = (-10002, qfail (r, n, P, q, cn) 0) := qcell_none hn hb2
    rw [hz]
    exact ⟨rfl, hA.fail hM⟩

set_option maxRecDepth 100000 in
set_option maxHeartbeats 4000000 in
theorem c_X3_undo (l : Launch) (Y : gL) (nb : Nat) (σ : gS) (r : Nat → Int32) (n : Nat) (P : Nat → Nat → Int32) (q : Nat) (cn : Nat → Int32) (hM : zLC Y nb) (hA : zA Y nb σ (r, n, P, q, cn)) (B : Nat) (hBB : B + 12 < 2 ^ 30) (hI : qAI (r, n, P, q, cn) B) : gM l yX3_undo cX3_undo 1 (some .int) (gRm 6 128) Y [.ref nb] σ (gI fun z τ => (qundo (r, n, P, q, cn)).1 = z ∧ zA Y nb τ (qundo (r, n, P, q, cn)).2) := by
  have hH : zH Y nb σ P q cn := hA.1
  have hB : zB Y σ (gF Y nb 0) r n := hA.2.1
  have hL : zL Y σ (gF Y nb 0) r := hA.2.2.1
  have hG : zG Y σ (gF Y nb 4) (qg r n) := hA.2.2.2.1
  have hF : zM (σ.1 nb 5) (qF (qg r n) r) := hA.2.2.2.2
  have hc := hH.1.1 _ hM.2.1
  have hn : n ≤ 12 := hB.2.1
  have hgn : qn (qg r n) = n := rfl
  have hm := qm_le (qg r n)
  have hI1 : qRI r n B := hI.1
  have hq4 := hH.2.1.1
  refine gM.of (by decide) rfl ?_
  intro p e s m args below meth c hC
  have hX := hC.1
  refine gx_aload_n hX 0 dX3_undo_0 rfl rfl ?_
  refine gx_get hC 2 inlX3 wf_RX3_20 rfl hM.1 rfl rfl rfl rfl dX3_undo_1 rfl ?_
  refine gx_topi (b := (nI q)) hH.2.1.2.1 ?_
  refine gx_if_gt (tgt := 15) hX dX3_undo_4 (by decide) rfl (fun h4 => ?_) (fun h4 => ?_)
  · have hq0 : q ≠ 0 := (zqpos q hq4).mp h4
    obtain ⟨n2, hb2, hl2⟩ := hH.2.1.2.2 (q - 1) (by omega)
    have hIb := qback_I hI hq0
    have hne : (qback (r, n, P, q, cn) 0).toNatClampNeg = n2 := by rw [show qback (r, n, P, q, cn) 0 = P (q - 1) 0 from if_pos (by omega), hb2.1]; exact nI_clamp (by have := hb2.2.1; omega)
    have hn2 := hb2.2.1
    have hI2 : qRI (qback (r, n, P, q, cn)) n2 B := by rw [← hne]; exact hIb
    refine gx_aload_n hX 0 dX3_undo_15 rfl rfl ?_
    refine gx_dup hX dX3_undo_16 rfl rfl ?_
    refine gx_get hC 2 inlX3 wf_RX3_20 rfl hM.1 rfl rfl rfl rfl dX3_undo_17 rfl ?_
    refine gx_topi (b := (nI q)) hH.2.1.2.1 ?_
    refine gx_iconst (v := 1) hX dX3_undo_20 rfl (by decide) ?_
    refine gx_isubN (i := q) (j := 1) hX dX3_undo_21 rfl rfl rfl (by omega) ?_
    refine gx_put (τ := uI σ nb 2 (nI (q - 1))) hC 2 inlX3 tyX3_ok nmX3 wf_RX3_20 rfl hM.1 rfl rfl (by simp [gE, uI]) (fun b hb => gEnt_I hb) rfl rfl rfl rfl rfl rfl rfl dX3_undo_22 rfl ?_
    refine gx_aload_n hX 0 dX3_undo_25 rfl rfl ?_
    refine gx_get hC 0 inlX3 wf_RX3_12 rfl hM.1 rfl rfl rfl rfl dX3_undo_26 rfl ?_
    refine gx_aload_n hX 0 dX3_undo_29 rfl rfl ?_
    refine gx_get hC 1 inlX3 wf_RX3_16 rfl hM.1 rfl rfl rfl rfl dX3_undo_30 rfl ?_
    refine gx_aload_n hX 0 dX3_undo_33 rfl rfl ?_
    refine gx_get hC 2 inlX3 wf_RX3_20 rfl hM.1 rfl rfl rfl rfl dX3_undo_34 rfl ?_
    refine gx_topi (b := (nI (q - 1))) uI_at ?_
    refine gx_aalds (i := q - 1) hC hM.2.2.1 rfl rfl (by omega) rfl dX3_undo_37 rfl ?_
    refine gx_callV (As := [.ref (σ.2.1 (gF Y nb 1) (q - 1))]) (st := []) hC (c_X2_copyFrom l Y (gF Y nb 0) (uI σ nb 2 (nI (q - 1))) hM.2.2.2.2.2 hM.2.1 hc (σ.2.1 (gF Y nb 1) (q - 1)) (hH.1.2 (q - 1) (by omega)).1 (hH.1.1 _ (hH.1.2 (q - 1) (by omega)).1) (hH.1.2 (q - 1) (by omega)).2.1) kX2_copyFrom wm_RX3_150 rfl hM.2.1 rfl rfl rfl rfl rfl dX3_undo_38 rfl (gx_kv fun τ38 hq38 => ?_)
    obtain ⟨f38, w38⟩ := τ38
    obtain rfl : w38 = σ.2 := hq38.1.1
    have hu1 := zun (f2 := f38) hM hH hq0 hb2 hl2 (r2 := (qback (r, n, P, q, cn))) (fun j hj => if_pos hj) hq38
    refine gx_aload_n hX 0 dX3_undo_41 rfl rfl ?_
    refine gx_get hC 4 inlX3 wf_RX3_31 rfl hM.1 rfl rfl rfl rfl dX3_undo_42 rfl ?_
    refine gx_aload_n hX 0 dX3_undo_45 rfl rfl ?_
    refine gx_get hC 0 inlX3 wf_RX3_12 rfl hM.1 rfl rfl rfl rfl dX3_undo_46 rfl ?_
    refine gx_callV (As := [.ref (gF Y nb 0)]) (st := []) hC (c_X1_derive l Y (gF Y nb 4) (f38, σ.2) (qg (qback (r, n, P, q, cn)) n2) hM.2.2.2.2.1 hn2 (gF Y nb 0) hM.2.2.2.2.2 hM.2.1 hc (hu1.2.1.D (fun c hc => hI2.2.2.2.2.2 c hc))) kX1_derive wm_RX3_154 rfl hM.2.2.2.2.1.1 rfl rfl rfl rfl rfl dX3_undo_49 rfl (gx_kv fun τ49 hq49 => ?_)
    obtain ⟨f49, w49⟩ := τ49
    obtain rfl : w49 = σ.2 := hq49.1.1
    have hu2 := zun2 hM hu1 hq49.1
    refine gx_aload_n hX 0 dX3_undo_52 rfl rfl ?_
    refine gx_iconst (v := 0) hX dX3_undo_53 rfl (by decide) ?_
    refine gx_callV (As := [.int 0]) (st := []) hC (c_X3_walkRunOrder l Y nb (f49, σ.2) (qg (qback (r, n, P, q, cn)) n2) hM hn2 (qback (r, n, P, q, cn)) rfl P (q - 1) cn hu2.1 hu2.2.1 hu2.2.2 hq49.2 0 (zWk_0 hn2 (by omega) hI2) (zE_0 hn2)) kX3_walkRunOrder wm_RX3_94 rfl hM.1 rfl rfl rfl rfl rfl dX3_undo_54 rfl (gx_kv fun τ54 hq54 => ?_)
    have hE : zA Y nb τ54 ((qback (r, n, P, q, cn)), n2, P, q - 1, cn) := by have z := hq54; rw [show qrt (qback (r, n, P, q, cn)) (qn (qg (qback (r, n, P, q, cn)) n2)) 0 = (qback (r, n, P, q, cn)) from qrt_0 hn2] at z; exact z
    refine gx_aload_n hX 0 dX3_undo_57 rfl rfl ?_
    refine gx_get hC 2 inlX3 wf_RX3_20 rfl hM.1 rfl rfl rfl rfl dX3_undo_58 rfl ?_
    refine gx_topi (b := (nI (q - 1))) hE.1.2.1.2.1 ?_
    refine gx_iret hC dX3_undo_61 ?_
    have hz : qundo (r, n, P, q, cn) = (nI (q - 1), ((qback (r, n, P, q, cn)), (qback (r, n, P, q, cn) 0).toNatClampNeg, P, q - 1, cn)) := if_neg hq0
    rw [hz, hne]
    exact ⟨rfl, hE⟩
  · have hq0 : q = 0 := Classical.byContradiction (fun z => h4 ((zqpos q hq4).mpr z))
    refine gx_aload_n hX 0 dX3_undo_7 rfl rfl ?_
    refine gx_sipush (v := (-10003)) hX dX3_undo_8 rfl (by decide) ?_
    refine gx_callV (As := [.int (-10003)]) (st := []) hC (c_X3_fail l Y nb σ hM (-10003) 1 (by omega) (by decide)) kX3_fail wm_RX3_42 rfl hM.1 rfl rfl rfl rfl rfl dX3_undo_11 rfl (gx_ki fun r11 τ11 hq11 => ?_)
    obtain ⟨rfl, rfl⟩ := hq11
    refine gx_iret hC dX3_undo_14 ?_
    have hz : qundo (r, n, P, q, cn) = (-10003, qfail (r, n, P, q, cn) 1) := if_pos hq0
    rw [hz]
    exact ⟨rfl, hA.fail hM⟩
