set_option maxRecDepth 100000 in
set_option maxHeartbeats 4000000 in
theorem c_X3_dropOldest (l : Launch) (Y : gL) (nb : Nat) (σ : gS) (hM : zLC Y nb) (P : Nat → Nat → Int32) (q : Nat) (cn : Nat → Int32) (hH : zH Y nb σ P q cn) : gM l yX3_dropOldest cX3_dropOldest 3 none (gRm 0 0) Y [.ref nb] σ (gV fun τ => zDr Y nb σ τ) := by
  refine gM.of (by decide) rfl ?_
  intro p e s m args below meth c hC
  have hX := hC.1
  refine gx_aload_n hX 0 dX3_dropOldest_0 rfl rfl ?_
  refine gx_get hC 1 inlX3 wf_RX3_16 rfl hM.1 rfl rfl rfl rfl dX3_dropOldest_1 rfl ?_
  refine gx_iconst (v := 0) hX dX3_dropOldest_4 rfl (by decide) ?_
  refine gx_aalds (i := 0) hC hM.2.2.1 rfl rfl (by omega) rfl dX3_dropOldest_5 rfl ?_
  refine gx_astore_n (lv' := [(1, .ref (σ.2.1 (gF Y nb 1) 0)), (0, .ref nb)]) hX dX3_dropOldest_6 rfl (by decide) rfl ?_
  refine gx_iconst (v := 1) hX dX3_dropOldest_7 rfl (by decide) ?_
  refine gx_istore_n (lv' := [(2, .int 1), (1, .ref (σ.2.1 (gF Y nb 1) 0)), (0, .ref nb)]) hX dX3_dropOldest_8 rfl (by decide) rfl ?_
  refine gx_iload_n hX 0 dX3_dropOldest_9 rfl rfl ?_
  refine gx_iconst (v := 4) hX dX3_dropOldest_10 rfl (by decide) ?_
  refine gx_icmp_ge_f (tgt := 34) hX dX3_dropOldest_11 (by decide) rfl (by decide) ?_
  refine gx_aload_n hX 2 dX3_dropOldest_14 rfl rfl ?_
  refine gx_get hC 1 inlX3 wf_RX3_16 rfl hM.1 rfl rfl rfl rfl dX3_dropOldest_15 rfl ?_
  refine gx_iload_n hX 0 dX3_dropOldest_18 rfl rfl ?_
  refine gx_iconst (v := 1) hX dX3_dropOldest_19 rfl (by decide) ?_
  refine gx_isub hX dX3_dropOldest_20 rfl ?_
  refine gx_topi (b := 0) (by decide) ?_
  refine gx_aload_n hX 2 dX3_dropOldest_21 rfl rfl ?_
  refine gx_get hC 1 inlX3 wf_RX3_16 rfl hM.1 rfl rfl rfl rfl dX3_dropOldest_22 rfl ?_
  refine gx_iload_n hX 0 dX3_dropOldest_25 rfl rfl ?_
  refine gx_aalds (i := 1) hC hM.2.2.1 rfl rfl (by omega) rfl dX3_dropOldest_26 rfl ?_
  refine gx_topr (b := (σ.2.1 (gF Y nb 1) 1)) rfl ?_
  refine gx_aast (i := 0) hC 3 hM.2.2.1 rfl rfl rfl rfl ((hH.1.2 1 (by omega)).1) rfl rfl rfl (by omega) rfl dX3_dropOldest_27 rfl ?_
  refine gx_iinc (w := 2) (lv' := [(2, .int 2), (1, .ref (σ.2.1 (gF Y nb 1) 0)), (0, .ref nb)]) hX 0 dX3_dropOldest_28 rfl rfl (by decide) (by decide) rfl ?_
  refine gx_goto (pc' := 9) hX dX3_dropOldest_31 (by decide) ?_
  refine gx_iload_n hX 0 dX3_dropOldest_9 rfl rfl ?_
  refine gx_iconst (v := 4) hX dX3_dropOldest_10 rfl (by decide) ?_
  refine gx_icmp_ge_f (tgt := 34) hX dX3_dropOldest_11 (by decide) rfl (by decide) ?_
  refine gx_aload_n hX 2 dX3_dropOldest_14 rfl rfl ?_
  refine gx_get hC 1 inlX3 wf_RX3_16 rfl hM.1 rfl rfl rfl rfl dX3_dropOldest_15 rfl ?_
  refine gx_iload_n hX 0 dX3_dropOldest_18 rfl rfl ?_
  refine gx_iconst (v := 1) hX dX3_dropOldest_19 rfl (by decide) ?_
  refine gx_isub hX dX3_dropOldest_20 rfl ?_
  refine gx_topi (b := 1) (by decide) ?_
  refine gx_aload_n hX 2 dX3_dropOldest_21 rfl rfl ?_
  refine gx_get hC 1 inlX3 wf_RX3_16 rfl hM.1 rfl rfl rfl rfl dX3_dropOldest_22 rfl ?_
  refine gx_iload_n hX 0 dX3_dropOldest_25 rfl rfl ?_
  refine gx_aalds (i := 2) hC hM.2.2.1 rfl rfl (by omega) rfl dX3_dropOldest_26 rfl ?_
  refine gx_topr (b := (σ.2.1 (gF Y nb 1) 2)) (by simp [uG]) ?_
  refine gx_aast (i := 1) hC 3 hM.2.2.1 rfl rfl rfl rfl ((hH.1.2 2 (by omega)).1) rfl rfl rfl (by omega) rfl dX3_dropOldest_27 rfl ?_
  refine gx_iinc (w := 3) (lv' := [(2, .int 3), (1, .ref (σ.2.1 (gF Y nb 1) 0)), (0, .ref nb)]) hX 0 dX3_dropOldest_28 rfl rfl (by decide) (by decide) rfl ?_
  refine gx_goto (pc' := 9) hX dX3_dropOldest_31 (by decide) ?_
  refine gx_iload_n hX 0 dX3_dropOldest_9 rfl rfl ?_
  refine gx_iconst (v := 4) hX dX3_dropOldest_10 rfl (by decide) ?_
  refine gx_icmp_ge_f (tgt := 34) hX dX3_dropOldest_11 (by decide) rfl (by decide) ?_
  refine gx_aload_n hX 2 dX3_dropOldest_14 rfl rfl ?_
  refine gx_get hC 1 inlX3 wf_RX3_16 rfl hM.1 rfl rfl rfl rfl dX3_dropOldest_15 rfl ?_
  refine gx_iload_n hX 0 dX3_dropOldest_18 rfl rfl ?_
  refine gx_iconst (v := 1) hX dX3_dropOldest_19 rfl (by decide) ?_
  refine gx_isub hX dX3_dropOldest_20 rfl ?_
  refine gx_topi (b := 2) (by decide) ?_
  refine gx_aload_n hX 2 dX3_dropOldest_21 rfl rfl ?_
  refine gx_get hC 1 inlX3 wf_RX3_16 rfl hM.1 rfl rfl rfl rfl dX3_dropOldest_22 rfl ?_
  refine gx_iload_n hX 0 dX3_dropOldest_25 rfl rfl ?_
  refine gx_aalds (i := 3) hC hM.2.2.1 rfl rfl (by omega) rfl dX3_dropOldest_26 rfl ?_
  refine gx_topr (b := (σ.2.1 (gF Y nb 1) 3)) (by simp [uG]) ?_
  refine gx_aast (i := 2) hC 3 hM.2.2.1 rfl rfl rfl rfl ((hH.1.2 3 (by omega)).1) rfl rfl rfl (by omega) rfl dX3_dropOldest_27 rfl ?_
  refine gx_iinc (w := 4) (lv' := [(2, .int 4), (1, .ref (σ.2.1 (gF Y nb 1) 0)), (0, .ref nb)]) hX 0 dX3_dropOldest_28 rfl rfl (by decide) (by decide) rfl ?_
  refine gx_goto (pc' := 9) hX dX3_dropOldest_31 (by decide) ?_
  refine gx_iload_n hX 0 dX3_dropOldest_9 rfl rfl ?_
  refine gx_iconst (v := 4) hX dX3_dropOldest_10 rfl (by decide) ?_
  refine gx_icmp_ge_t (tgt := 34) hX dX3_dropOldest_11 (by decide) (by decide) ?_
  refine gx_aload_n hX 2 dX3_dropOldest_34 rfl rfl ?_
  refine gx_get hC 1 inlX3 wf_RX3_16 rfl hM.1 rfl rfl rfl rfl dX3_dropOldest_35 rfl ?_
  refine gx_iconst (v := 3) hX dX3_dropOldest_38 rfl (by decide) ?_
  refine gx_aload_n hX 1 dX3_dropOldest_39 rfl rfl ?_
  refine gx_aast (i := 3) hC 3 hM.2.2.1 rfl rfl rfl rfl ((hH.1.2 0 (by omega)).1) rfl rfl rfl (by omega) rfl dX3_dropOldest_40 rfl ?_
  refine gx_aload_n hX 2 dX3_dropOldest_41 rfl rfl ?_
  refine gx_iconst (v := 3) hX dX3_dropOldest_42 rfl (by decide) ?_
  refine gx_put (τ := uI (uG (uG (uG (uG σ (gF Y nb 1) 0 (σ.2.1 (gF Y nb 1) 1)) (gF Y nb 1) 1 (σ.2.1 (gF Y nb 1) 2)) (gF Y nb 1) 2 (σ.2.1 (gF Y nb 1) 3)) (gF Y nb 1) 3 (σ.2.1 (gF Y nb 1) 0)) nb 2 3) hC 2 inlX3 tyX3_ok nmX3 wf_RX3_20 rfl hM.1 rfl rfl (by simp [gE, uI]) (fun b hb => gEnt_I hb) rfl rfl rfl rfl rfl rfl rfl dX3_dropOldest_43 rfl ?_
  exact gx_vret hC dX3_dropOldest_46 (⟨_, (((zU.rf.put).put).put).put, fun k hk => by rcases (show k = 0 ∨ k = 1 ∨ k = 2 ∨ k = 3 by omega) with rfl | rfl | rfl | rfl <;> simp [uG], rfl⟩)

set_option maxRecDepth 100000 in
set_option maxHeartbeats 4000000 in
theorem c_X3_save (l : Launch) (Y : gL) (nb : Nat) (σ : gS) (hM : zLC Y nb) (P : Nat → Nat → Int32) (q : Nat) (cn : Nat → Int32) (hH : zH Y nb σ P q cn) (r : Nat → Int32) (n : Nat) (hB : zB Y σ (gF Y nb 0) r n) (hL : zL Y σ (gF Y nb 0) r) : gM l yX3_save cX3_save 1 none (gRm 2 43) Y [.ref nb] σ (gV fun τ => zSd Y nb σ τ P q cn r n) := by
  have hq4 := hH.2.1.1
  refine gM.of (by decide) rfl ?_
  intro p e s m args below meth c hC
  have hX := hC.1
  have J12 : ∀ (ω : gS) (q1 : Nat) (P1 : Nat → Nat → Int32), (zSv Y nb σ ω P q cn r n q1 P1) → gG p l e (gRm 2 43) s m args below meth c Y (gV fun τ => zSd Y nb σ τ P q cn r n) ω 12 [(0, .ref nb)] [] := by
    intro ω q1 P1 hV
    have hq1 := hV.2.1
    refine gx_aload_n hX 0 dX3_save_12 rfl rfl ?_
    refine gx_get hC 1 inlX3 wf_RX3_16 rfl hM.1 rfl rfl rfl rfl dX3_save_13 rfl ?_
    refine gx_aload_n hX 0 dX3_save_16 rfl rfl ?_
    refine gx_get hC 2 inlX3 wf_RX3_20 rfl hM.1 rfl rfl rfl rfl dX3_save_17 rfl ?_
    refine gx_topi (b := (nI q1)) hV.2.2.1 ?_
    refine gx_aalds (i := q1) hC hM.2.2.1 rfl rfl (by omega) rfl dX3_save_20 rfl ?_
    refine gx_aload_n hX 0 dX3_save_21 rfl rfl ?_
    refine gx_get hC 0 inlX3 wf_RX3_12 rfl hM.1 rfl rfl rfl rfl dX3_save_22 rfl ?_
    refine gx_callV (As := [.ref (gF Y nb 0)]) (st := []) hC (c_X2_copyFrom l Y (ω.2.1 (gF Y nb 1) q1) ω hM.2.2.2.2.2 (hV.1.2 q1 (by omega)).1 (hV.1.1 _ (hV.1.2 q1 (by omega)).1) (gF Y nb 0) hM.2.1 (hV.1.1 _ hM.2.1) (hV.1.2 q1 (by omega)).2.1.symm) kX2_copyFrom wm_RX3_150 rfl ((hV.1.2 q1 (by omega)).1) rfl rfl rfl rfl rfl dX3_save_25 rfl (gx_kv fun τ25 hq25 => ?_)
    obtain ⟨f25, w25⟩ := τ25
    obtain rfl : w25 = ω.2 := hq25.1.1
    refine gx_aload_n hX 0 dX3_save_28 rfl rfl ?_
    refine gx_dup hX dX3_save_29 rfl rfl ?_
    refine gx_get hC 2 inlX3 wf_RX3_20 rfl hM.1 rfl rfl rfl rfl dX3_save_30 rfl ?_
    refine gx_topi (b := (nI q1)) ((congrFun (hq25.1.2 _ (znb hM)) 2).trans hV.2.2.1) ?_
    refine gx_iconst (v := 1) hX dX3_save_33 rfl (by decide) ?_
    refine gx_iaddN (i := q1) (j := 1) hX dX3_save_34 rfl rfl rfl ?_
    refine gx_put (τ := uI (f25, ω.2) nb 2 (nI (q1 + 1))) hC 2 inlX3 tyX3_ok nmX3 wf_RX3_20 rfl hM.1 rfl rfl (by simp [gE, uI]) (fun b hb => gEnt_I hb) rfl rfl rfl rfl rfl rfl rfl dX3_save_35 rfl ?_
    exact gx_vret hC dX3_save_38 (hV.fin hM hq25)
  refine gx_aload_n hX 0 dX3_save_0 rfl rfl ?_
  refine gx_get hC 2 inlX3 wf_RX3_20 rfl hM.1 rfl rfl rfl rfl dX3_save_1 rfl ?_
  refine gx_topi (b := (nI q)) hH.2.1.2.1 ?_
  refine gx_iconst (v := 4) hX dX3_save_4 rfl (by decide) ?_
  refine gx_nat_lt (i := q) (j := 4) (tgt := 12) hX dX3_save_5 (by decide) rfl rfl rfl (by omega) (by omega) (fun h5 => ?_) (fun h5 => ?_)
  · exact gx_sub [0] rfl (J12 σ q P (zSv.now hH hB hL (by omega)))
  · refine gx_aload_n hX 0 dX3_save_8 rfl rfl ?_
    refine gx_callV (As := []) (st := []) hC (c_X3_dropOldest l Y nb σ hM P q cn hH) kX3_dropOldest wm_RX3_181 rfl hM.1 rfl rfl rfl rfl rfl dX3_save_9 rfl (gx_kv fun τ9 hq9 => ?_)
    exact gx_sub [0] rfl (J12 τ9 3 _ (hq9.sv hM hH hB hL (by omega)))

set_option maxRecDepth 100000 in
set_option maxHeartbeats 4000000 in
theorem c_X3_startLastRun (l : Launch) (Y : gL) (nb : Nat) (σ : gS) (hM : zLC Y nb) : gM l yX3_startLastRun cX3_startLastRun 1 none (gRm 0 0) Y [.ref nb] σ (gV fun τ => uI σ (gF Y nb 0) 6 0 = τ) := by
  refine gM.of (by decide) rfl ?_
  intro p e s m args below meth c hC
  have hX := hC.1
  refine gx_aload_n hX 0 dX3_startLastRun_0 rfl rfl ?_
  refine gx_get hC 0 inlX3 wf_RX3_12 rfl hM.1 rfl rfl rfl rfl dX3_startLastRun_1 rfl ?_
  refine gx_iconst (v := 0) hX dX3_startLastRun_4 rfl (by decide) ?_
  refine gx_put (τ := uI σ (gF Y nb 0) 6 0) hC 6 inlX2 tyX2_ok nmX2 wf_RX3_97 rfl hM.2.1 rfl rfl (by simp [gE, uI]) (fun b hb => gEnt_I hb) rfl rfl rfl rfl rfl rfl rfl dX3_startLastRun_5 rfl ?_
  exact gx_vret hC dX3_startLastRun_8 (rfl)

set_option maxRecDepth 100000 in
set_option maxHeartbeats 4000000 in
theorem c_X3_finishEditing (l : Launch) (Y : gL) (nb : Nat) (σ : gS) (hM : zLC Y nb) (P : Nat → Nat → Int32) (q : Nat) (cn : Nat → Int32) (hH : zH Y nb σ P q cn) (r : Nat → Int32) (n : Nat) (hB : zB Y σ (gF Y nb 0) r n) (h4 : r 4 = 0) (B : Nat) (hI : qRI r n B) (hBB : B + 12 < 2 ^ 30) : gM l yX3_finishEditing cX3_finishEditing 1 none (gRm 6 128) Y [.ref nb] σ (gV fun τ => zA Y nb τ (qeag r n, n, P, q, cn)) := by
  have hc := hH.1.1 _ hM.2.1
  have hn := hB.2.1
  have hS := hM.2.2.2.2.2
  have ht := hM.2.1
  refine gM.of (by decide) rfl ?_
  intro p e s m args below meth c hC
  have hX := hC.1
  refine gx_aload_n hX 0 dX3_finishEditing_0 rfl rfl ?_
  refine gx_get hC 4 inlX3 wf_RX3_31 rfl hM.1 rfl rfl rfl rfl dX3_finishEditing_1 rfl ?_
  refine gx_aload_n hX 0 dX3_finishEditing_4 rfl rfl ?_
  refine gx_get hC 0 inlX3 wf_RX3_12 rfl hM.1 rfl rfl rfl rfl dX3_finishEditing_5 rfl ?_
  refine gx_callV (As := [.ref (gF Y nb 0)]) (st := []) hC (c_X1_derive l Y (gF Y nb 4) σ (qg r n) hM.2.2.2.2.1 hn (gF Y nb 0) hS ht hc (hB.D (fun c hc => hI.2.2.2.2.2 c hc))) kX1_derive wm_RX3_154 rfl hM.2.2.2.2.1.1 rfl rfl rfl rfl rfl dX3_finishEditing_8 rfl (gx_kv fun τ8 hq8 => ?_)
  obtain ⟨f8, w8⟩ := τ8
  obtain rfl : w8 = σ.2 := hq8.1.1
  refine gx_aload_n hX 0 dX3_finishEditing_11 rfl rfl ?_
  refine gx_callV (As := []) (st := []) hC (c_X3_startLastRun l Y nb (f8, σ.2) hM) kX3_startLastRun wm_RX3_91 rfl hM.1 rfl rfl rfl rfl rfl dX3_finishEditing_12 rfl (gx_kv fun τ12 hq12 => ?_)
  obtain rfl := hq12
  have hHw := zfe_H hM hH hq8.1
  have hBw := zfe_B hM hH hB hq8.1
  have hLw := zfe_L (f := f8) (σ := σ) (nb := nb) (Y := Y) h4
  have hGw := zfe_G hM hq8.2
  have zcl0 : qcl (qg r n) 0 := qcl_0 hn
  refine gx_aload_n hX 0 dX3_finishEditing_15 rfl rfl ?_
  refine gx_aload_n hX 0 dX3_finishEditing_16 rfl rfl ?_
  refine gx_get hC 0 inlX3 wf_RX3_12 rfl hM.1 rfl rfl rfl rfl dX3_finishEditing_17 rfl ?_
  refine gx_get hC 2 inlX2 wf_RX3_88 rfl hM.2.1 rfl rfl rfl rfl dX3_finishEditing_20 rfl ?_
  refine gx_topi (b := (r 1)) hBw.2.2.2.1 ?_
  refine gx_iconst (v := 1) hX dX3_finishEditing_23 rfl (by decide) ?_
  refine gx_icmp_ne (tgt := 33) hX dX3_finishEditing_24 (by decide) rfl (fun h24 => ?_) (fun h24 => ?_)
  · refine gx_iconst (v := 0) hX dX3_finishEditing_33 rfl (by decide) ?_
    refine gx_callV (As := [.int 0]) (st := []) hC (c_X3_walkRunOrder l Y nb (uI (f8, σ.2) (gF Y nb 0) 6 0) (qg r n) hM hn r rfl P q cn hHw hBw hLw hGw 0 (zWk_of hn hBB hI h4 (zcl0)) ⟨(qrt_inv hn hBB hI h4 (zcl0)).2.1, (qrt_inv hn hBB hI h4 (zcl0)).2.2⟩) kX3_walkRunOrder wm_RX3_94 rfl hM.1 rfl rfl rfl rfl rfl dX3_finishEditing_34 rfl (gx_kv fun τ34 hq34 => ?_)
    exact gx_vret hC dX3_finishEditing_37 (by first | exact zeag1 hn h24 hq34 | exact zeag0 hn h24 hq34)
  · refine gx_sipush (v := 4095) hX dX3_finishEditing_27 rfl (by decide) ?_
    refine gx_goto (pc' := 34) hX dX3_finishEditing_30 (by decide) ?_
    refine gx_callV (As := [.int 4095]) (st := []) hC (c_X3_walkRunOrder l Y nb (uI (f8, σ.2) (gF Y nb 0) 6 0) (qg r n) hM hn r rfl P q cn hHw hBw hLw hGw 4095 (zWk_of hn hBB hI h4 (zcl_by z4095)) ⟨(qrt_inv hn hBB hI h4 (zcl_by z4095)).2.1, (qrt_inv hn hBB hI h4 (zcl_by z4095)).2.2⟩) kX3_walkRunOrder wm_RX3_94 rfl hM.1 rfl rfl rfl rfl rfl dX3_finishEditing_34 rfl (gx_kv fun τ34 hq34 => ?_)
    exact gx_vret hC dX3_finishEditing_37 (by first | exact zeag1 hn h24 hq34 | exact zeag0 hn h24 hq34)

set_option maxRecDepth 100000 in
set_option maxHeartbeats 4000000 in
theorem c_X3_fail (l : Launch) (Y : gL) (nb : Nat) (σ : gS) (hM : zLC Y nb) (x : Int32) (k : Nat) (hk : k < 3) (hx : -10002 - x = nI k) : gM l yX3_fail cX3_fail 3 (some .int) (gRm 0 0) Y [.ref nb, .int x] σ (gI fun z τ => uI σ (gF Y nb 3) k (σ.1 (gF Y nb 3) k + 1) = τ ∧ x = z) := by
  refine gM.of (by decide) rfl ?_
  intro p e s m args below meth c hC
  have hX := hC.1
  refine gx_sipush (v := (-10002)) hX dX3_fail_0 rfl (by decide) ?_
  refine gx_iload_n hX 1 dX3_fail_3 rfl rfl ?_
  refine gx_isub hX dX3_fail_4 rfl ?_
  refine gx_topi (b := (nI k)) hx ?_
  refine gx_istore_n (lv' := [(2, .int (nI k)), (0, .ref nb), (1, .int x)]) hX dX3_fail_5 rfl (by decide) rfl ?_
  refine gx_iload_n hX 0 dX3_fail_6 rfl rfl ?_
  refine gx_if_lt_f (tgt := 25) hX dX3_fail_7 (by decide) rfl (nI_pos (by omega)) ?_
  refine gx_iload_n hX 0 dX3_fail_10 rfl rfl ?_
  refine gx_iconst (v := 3) hX dX3_fail_11 rfl (by decide) ?_
  refine gx_nat_ge (i := k) (j := 3) (tgt := 25) hX dX3_fail_12 (by decide) rfl rfl rfl (by omega) (by omega) (fun h12 => ?_) (fun h12 => ?_)
  · exact absurd hk (by omega)
  · refine gx_aload_n hX 1 dX3_fail_15 rfl rfl ?_
    refine gx_get hC 3 inlX3 wf_RX3_24 rfl hM.1 rfl rfl rfl rfl dX3_fail_16 rfl ?_
    refine gx_iload_n hX 0 dX3_fail_19 rfl rfl ?_
    refine gx_dup2 hX dX3_fail_20 rfl rfl rfl ?_
    refine gx_iald (i := k) hC hM.2.2.2.1 rfl rfl (by omega) rfl dX3_fail_21 rfl ?_
    refine gx_iconst (v := 1) hX dX3_fail_22 rfl (by decide) ?_
    refine gx_iadd hX dX3_fail_23 rfl ?_
    refine gx_iast (i := k) hC hM.2.2.2.1 rfl rfl rfl rfl (by omega) rfl dX3_fail_24 rfl ?_
    refine gx_iload_n hX 2 dX3_fail_25 rfl rfl ?_
    exact gx_iret hC dX3_fail_26 (⟨rfl, rfl⟩)

set_option maxRecDepth 100000 in
set_option maxHeartbeats 4000000 in
theorem c_X3_isCell (l : Launch) (Y : gL) (nb : Nat) (σ : gS) (hM : zLC Y nb) (n : Nat) (hn : n ≤ 12) (h1c : σ.1 (gF Y nb 0) 1 = nI n) (x : Int32) : gM l yX3_isCell cX3_isCell 2 (some .boolean) (gRm 0 0) Y [.ref nb, .int x] σ (gI fun z τ => σ = τ ∧ ((z = 1 ∧ (∃ j, j < n ∧ x = nI j)) ∨ (z = 0 ∧ ¬ (∃ j, j < n ∧ x = nI j)))) := by
  refine gM.of (by decide) rfl ?_
  intro p e s m args below meth c hC
  have hX := hC.1
  refine gx_iload_n hX 1 dX3_isCell_0 rfl rfl ?_
  refine gx_if_lt (tgt := 19) hX dX3_isCell_1 (by decide) rfl (fun h1 => ?_) (fun h1 => ?_)
  · refine gx_iconst (v := 0) hX dX3_isCell_19 rfl (by decide) ?_
    exact gx_zret hC rfl dX3_isCell_20 (⟨rfl, Or.inr ⟨rfl, fun z => by have z2 := (zcellI hn).mp z; first | exact z2.1 h1 | exact h1 z2.1 | exact absurd z2.2 (Int32.not_lt.mpr h12)⟩⟩)
  · refine gx_iload_n hX 1 dX3_isCell_4 rfl rfl ?_
    refine gx_aload_n hX 0 dX3_isCell_5 rfl rfl ?_
    refine gx_get hC 0 inlX3 wf_RX3_12 rfl hM.1 rfl rfl rfl rfl dX3_isCell_6 rfl ?_
    refine gx_get hC 1 inlX2 wf_RX3_46 rfl hM.2.1 rfl rfl rfl rfl dX3_isCell_9 rfl ?_
    refine gx_topi (b := (nI n)) h1c ?_
    refine gx_icmp_ge (tgt := 19) hX dX3_isCell_12 (by decide) rfl (fun h12 => ?_) (fun h12 => ?_)
    · refine gx_iconst (v := 0) hX dX3_isCell_19 rfl (by decide) ?_
      exact gx_zret hC rfl dX3_isCell_20 (⟨rfl, Or.inr ⟨rfl, fun z => by have z2 := (zcellI hn).mp z; first | exact z2.1 h1 | exact h1 z2.1 | exact absurd z2.2 (Int32.not_lt.mpr h12)⟩⟩)
    · refine gx_iconst (v := 1) hX dX3_isCell_15 rfl (by decide) ?_
      refine gx_goto (pc' := 20) hX dX3_isCell_16 (by decide) ?_
      exact gx_zret hC rfl dX3_isCell_20 (⟨rfl, Or.inl ⟨rfl, (zcellI hn).mpr ⟨by first | exact h1 | exact Int32.not_lt.mpr h1, Int32.not_le.mp h12⟩⟩⟩)

set_option maxRecDepth 100000 in
set_option maxHeartbeats 4000000 in
theorem c_X3_isVariable (l : Launch) (Y : gL) (σ : gS) (x : Int32) : gM l yX3_isVariable cX3_isVariable 1 (some .boolean) (gRm 0 0) Y [.int x] σ (gI fun z τ => σ = τ ∧ ((z = 1 ∧ (¬ x < 0 ∧ ¬ 9 < x)) ∨ (z = 0 ∧ ¬ (¬ x < 0 ∧ ¬ 9 < x)))) := by
  refine gM.of (by decide) rfl ?_
  intro p e s m args below meth c hC
  have hX := hC.1
  refine gx_iload_n hX 0 dX3_isVariable_0 rfl rfl ?_
  refine gx_if_lt (tgt := 14) hX dX3_isVariable_1 (by decide) rfl (fun h1 => ?_) (fun h1 => ?_)
  · refine gx_iconst (v := 0) hX dX3_isVariable_14 rfl (by decide) ?_
    exact gx_zret hC rfl dX3_isVariable_15 (⟨rfl, Or.inr ⟨rfl, fun z => by first | exact z.1 h1 | exact (zlt_s (by decide)).mpr z.2 h7⟩⟩)
  · refine gx_iload_n hX 0 dX3_isVariable_4 rfl rfl ?_
    refine gx_bipush (v := 10) hX dX3_isVariable_5 rfl (by decide) ?_
    refine gx_icmp_ge (tgt := 14) hX dX3_isVariable_7 (by decide) rfl (fun h7 => ?_) (fun h7 => ?_)
    · refine gx_iconst (v := 0) hX dX3_isVariable_14 rfl (by decide) ?_
      exact gx_zret hC rfl dX3_isVariable_15 (⟨rfl, Or.inr ⟨rfl, fun z => by first | exact z.1 h1 | exact (zlt_s (by decide)).mpr z.2 h7⟩⟩)
    · refine gx_iconst (v := 1) hX dX3_isVariable_10 rfl (by decide) ?_
      refine gx_goto (pc' := 15) hX dX3_isVariable_11 (by decide) ?_
      exact gx_zret hC rfl dX3_isVariable_15 (⟨rfl, Or.inl ⟨rfl, ⟨h1, (zlt_s (by decide)).mp h7⟩⟩⟩)

set_option maxRecDepth 100000 in
set_option maxHeartbeats 4000000 in
theorem c_X3_isOperand (l : Launch) (Y : gL) (σ : gS) (x : Int32) : gM l yX3_isOperand cX3_isOperand 1 (some .boolean) (gRm 0 0) Y [.int x] σ (gI fun z τ => σ = τ ∧ ((z = 1 ∧ (¬ x < 0 ∧ ¬ 109 < x)) ∨ (z = 0 ∧ ¬ (¬ x < 0 ∧ ¬ 109 < x)))) := by
  refine gM.of (by decide) rfl ?_
  intro p e s m args below meth c hC
  have hX := hC.1
  refine gx_iload_n hX 0 dX3_isOperand_0 rfl rfl ?_
  refine gx_if_lt (tgt := 14) hX dX3_isOperand_1 (by decide) rfl (fun h1 => ?_) (fun h1 => ?_)
  · refine gx_iconst (v := 0) hX dX3_isOperand_14 rfl (by decide) ?_
    exact gx_zret hC rfl dX3_isOperand_15 (⟨rfl, Or.inr ⟨rfl, fun z => by first | exact z.1 h1 | exact (zlt_s (by decide)).mpr z.2 h7⟩⟩)
  · refine gx_iload_n hX 0 dX3_isOperand_4 rfl rfl ?_
    refine gx_bipush (v := 110) hX dX3_isOperand_5 rfl (by decide) ?_
    refine gx_icmp_ge (tgt := 14) hX dX3_isOperand_7 (by decide) rfl (fun h7 => ?_) (fun h7 => ?_)
    · refine gx_iconst (v := 0) hX dX3_isOperand_14 rfl (by decide) ?_
      exact gx_zret hC rfl dX3_isOperand_15 (⟨rfl, Or.inr ⟨rfl, fun z => by first | exact z.1 h1 | exact (zlt_s (by decide)).mpr z.2 h7⟩⟩)
    · refine gx_iconst (v := 1) hX dX3_isOperand_10 rfl (by decide) ?_
      refine gx_goto (pc' := 15) hX dX3_isOperand_11 (by decide) ?_
      exact gx_zret hC rfl dX3_isOperand_15 (⟨rfl, Or.inl ⟨rfl, ⟨h1, (zlt_s (by decide)).mp h7⟩⟩⟩)

set_option maxRecDepth 100000 in
set_option maxHeartbeats 4000000 in
theorem c_X3_isDefinition (l : Launch) (Y : gL) (σ : gS) (v op x y : Int32) : gM l yX3_isDefinition cX3_isDefinition 4 (some .boolean) (gRm 1 20) Y [.int v, .int op, .int x, .int y] σ (gI fun z τ => σ = τ ∧ ((z = 1 ∧ ((¬ v < 0 ∧ ¬ 9 < v) ∧ (¬ op < 0 ∧ ¬ 5 < op) ∧ (¬ x < 0 ∧ ¬ 109 < x) ∧ (¬ y < 0 ∧ ¬ 109 < y))) ∨ (z = 0 ∧ ¬ ((¬ v < 0 ∧ ¬ 9 < v) ∧ (¬ op < 0 ∧ ¬ 5 < op) ∧ (¬ x < 0 ∧ ¬ 109 < x) ∧ (¬ y < 0 ∧ ¬ 109 < y))))) := by
  refine gM.of (by decide) rfl ?_
  intro p e s m args below meth c hC
  have hX := hC.1
  refine gx_iload_n hX 0 dX3_isDefinition_0 rfl rfl ?_
  refine gx_callS (As := [.int v]) (st := []) hC (c_X3_isVariable l Y σ v) kX3_isVariable wm_RX3_115 rfl rfl rfl rfl dX3_isDefinition_1 rfl (gx_ki fun r1 τ1 hq1 => ?_)
  obtain ⟨rfl, ⟨rfl, hb1⟩ | ⟨rfl, hb1⟩⟩ := hq1
  · refine gx_if_eq_f (tgt := 35) hX dX3_isDefinition_4 (by decide) rfl (by decide) ?_
    refine gx_iload_n hX 1 dX3_isDefinition_7 rfl rfl ?_
    refine gx_if_lt (tgt := 35) hX dX3_isDefinition_8 (by decide) rfl (fun h8 => ?_) (fun h8 => ?_)
    · refine gx_iconst (v := 0) hX dX3_isDefinition_35 rfl (by decide) ?_
      exact gx_zret hC rfl dX3_isDefinition_36 (⟨rfl, Or.inr ⟨rfl, fun z => by first | exact hb1 z.1 | exact z.2.1.1 h8 | exact (zlt_s (by decide)).mpr z.2.1.2 h14 | exact hb18 z.2.2.1 | exact hb25 z.2.2.2⟩⟩)
    · refine gx_iload_n hX 1 dX3_isDefinition_11 rfl rfl ?_
      refine gx_bipush (v := 6) hX dX3_isDefinition_12 rfl (by decide) ?_
      refine gx_icmp_ge (tgt := 35) hX dX3_isDefinition_14 (by decide) rfl (fun h14 => ?_) (fun h14 => ?_)
      · refine gx_iconst (v := 0) hX dX3_isDefinition_35 rfl (by decide) ?_
        exact gx_zret hC rfl dX3_isDefinition_36 (⟨rfl, Or.inr ⟨rfl, fun z => by first | exact hb1 z.1 | exact z.2.1.1 h8 | exact (zlt_s (by decide)).mpr z.2.1.2 h14 | exact hb18 z.2.2.1 | exact hb25 z.2.2.2⟩⟩)
      · refine gx_iload_n hX 2 dX3_isDefinition_17 rfl rfl ?_
        refine gx_callS (As := [.int x]) (st := []) hC (c_X3_isOperand l Y σ x) kX3_isOperand wm_RX3_178 rfl rfl rfl rfl dX3_isDefinition_18 rfl (gx_ki fun r18 τ18 hq18 => ?_)
        obtain ⟨rfl, ⟨rfl, hb18⟩ | ⟨rfl, hb18⟩⟩ := hq18
        · refine gx_if_eq_f (tgt := 35) hX dX3_isDefinition_21 (by decide) rfl (by decide) ?_
          refine gx_iload_n hX 3 dX3_isDefinition_24 rfl rfl ?_
          refine gx_callS (As := [.int y]) (st := []) hC (c_X3_isOperand l Y σ y) kX3_isOperand wm_RX3_178 rfl rfl rfl rfl dX3_isDefinition_25 rfl (gx_ki fun r25 τ25 hq25 => ?_)
          obtain ⟨rfl, ⟨rfl, hb25⟩ | ⟨rfl, hb25⟩⟩ := hq25
          · refine gx_if_eq_f (tgt := 35) hX dX3_isDefinition_28 (by decide) rfl (by decide) ?_
            refine gx_iconst (v := 1) hX dX3_isDefinition_31 rfl (by decide) ?_
            refine gx_goto (pc' := 36) hX dX3_isDefinition_32 (by decide) ?_
            exact gx_zret hC rfl dX3_isDefinition_36 (⟨rfl, Or.inl ⟨rfl, ⟨hb1, ⟨h8, (zlt_s (by decide)).mp h14⟩, hb18, hb25⟩⟩⟩)
          · refine gx_if_eq_t (tgt := 35) hX dX3_isDefinition_28 (by decide) (by decide) ?_
            refine gx_iconst (v := 0) hX dX3_isDefinition_35 rfl (by decide) ?_
            exact gx_zret hC rfl dX3_isDefinition_36 (⟨rfl, Or.inr ⟨rfl, fun z => by first | exact hb1 z.1 | exact z.2.1.1 h8 | exact (zlt_s (by decide)).mpr z.2.1.2 h14 | exact hb18 z.2.2.1 | exact hb25 z.2.2.2⟩⟩)
        · refine gx_if_eq_t (tgt := 35) hX dX3_isDefinition_21 (by decide) (by decide) ?_
          refine gx_iconst (v := 0) hX dX3_isDefinition_35 rfl (by decide) ?_
          exact gx_zret hC rfl dX3_isDefinition_36 (⟨rfl, Or.inr ⟨rfl, fun z => by first | exact hb1 z.1 | exact z.2.1.1 h8 | exact (zlt_s (by decide)).mpr z.2.1.2 h14 | exact hb18 z.2.2.1 | exact hb25 z.2.2.2⟩⟩)
  · refine gx_if_eq_t (tgt := 35) hX dX3_isDefinition_4 (by decide) (by decide) ?_
    refine gx_iconst (v := 0) hX dX3_isDefinition_35 rfl (by decide) ?_
    exact gx_zret hC rfl dX3_isDefinition_36 (⟨rfl, Or.inr ⟨rfl, fun z => by first | exact hb1 z.1 | exact z.2.1.1 h8 | exact (zlt_s (by decide)).mpr z.2.1.2 h14 | exact hb18 z.2.2.1 | exact hb25 z.2.2.2⟩⟩)

set_option maxRecDepth 100000 in
set_option maxHeartbeats 4000000 in
theorem c_X3_statusOf (l : Launch) (Y : gL) (nb : Nat) (σ : gS) (r : Nat → Int32) (n : Nat) (P : Nat → Nat → Int32) (q : Nat) (cn : Nat → Int32) (hM : zLC Y nb) (hA : zA Y nb σ (r, n, P, q, cn)) (B : Nat) (hBB : B + 12 < 2 ^ 30) (hI : qAI (r, n, P, q, cn) B) (i : Nat) (hi : i < n) : gM l yX3_statusOf cX3_statusOf 3 (some .int) (gRm 1 21) Y [.ref nb, .int (nI i)] σ (gI fun z τ => σ = τ ∧ qsta (qg r n) r i = z) := by
  have hH : zH Y nb σ P q cn := hA.1
  have hB : zB Y σ (gF Y nb 0) r n := hA.2.1
  have hL : zL Y σ (gF Y nb 0) r := hA.2.2.1
  have hG : zG Y σ (gF Y nb 4) (qg r n) := hA.2.2.2.1
  have hF : zM (σ.1 nb 5) (qF (qg r n) r) := hA.2.2.2.2
  have hc := hH.1.1 _ hM.2.1
  have hn : n ≤ 12 := hB.2.1
  have hgn : qn (qg r n) = n := rfl
  have hm := qm_le (qg r n)
  have hI1 : qRI r n B := hI.1
  refine gM.of (by decide) rfl ?_
  intro p e s m args below meth c hC
  have hX := hC.1
  refine gx_aload_n hX 0 dX3_statusOf_0 rfl rfl ?_
  refine gx_get hC 4 inlX3 wf_RX3_31 rfl hM.1 rfl rfl rfl rfl dX3_statusOf_1 rfl ?_
  refine gx_get hC 4 inlX1 wf_RX3_100 rfl hM.2.2.2.2.1.1 rfl rfl rfl rfl dX3_statusOf_4 rfl ?_
  refine gx_iload_n hX 1 dX3_statusOf_7 rfl rfl ?_
  refine gx_iald (i := i) hC hM.2.2.2.2.1.2.2.2.2.2.1 rfl rfl (by omega) rfl dX3_statusOf_8 rfl ?_
  refine gx_topi (b := (qw (qg r n) i)) (hG.2.2.2.2.1 i hi) ?_
  refine gx_if_eq (tgt := 22) hX dX3_statusOf_9 (by decide) rfl (fun h9 => ?_) (fun h9 => ?_)
  · refine gx_aload_n hX 0 dX3_statusOf_22 rfl rfl ?_
    refine gx_get hC 5 inlX3 wf_RX3_35 rfl hM.1 rfl rfl rfl rfl dX3_statusOf_23 rfl ?_
    refine gx_iload_n hX 1 dX3_statusOf_26 rfl rfl ?_
    refine gx_callS (As := [.int (σ.1 nb 5), .int (nI i)]) (st := []) hC (c_X3_contains l Y σ (σ.1 nb 5) i (by omega)) kX3_contains wm_RX3_187 rfl rfl rfl rfl dX3_statusOf_27 rfl (gx_ki fun r27 τ27 hq27 => ?_)
    obtain ⟨rfl, ⟨rfl, hb27⟩ | ⟨rfl, hb27⟩⟩ := hq27
    · have hFi : qF (qg r n) r i = true := (hF i (by omega)).symm.trans hb27
      refine gx_if_ne_t (tgt := 35) hX dX3_statusOf_30 (by decide) (by decide) ?_
      refine gx_aload_n hX 0 dX3_statusOf_35 rfl rfl ?_
      refine gx_get hC 0 inlX3 wf_RX3_12 rfl hM.1 rfl rfl rfl rfl dX3_statusOf_36 rfl ?_
      refine gx_get hC 0 inlX2 wf_RX3_63 rfl hM.2.1 rfl rfl rfl rfl dX3_statusOf_39 rfl ?_
      refine gx_iload_n hX 1 dX3_statusOf_42 rfl rfl ?_
      refine gx_aaldc (i := i) hC ((hM.2.2.2.2.2 _ hM.2.1).1) rfl rfl (by omega) rfl dX3_statusOf_43 rfl ?_
      refine gx_get hC 4 inlX0 wf_RX3_210 rfl ((hc i (by omega)).1) rfl rfl rfl rfl dX3_statusOf_44 rfl ?_
      refine gx_topi (b := (zenc (r (17 + 10 * i + 4)))) (((hB.2.2.2.2.2.2 i hi).2.2.2.2.2.2 (zF5 hI1 (by omega) hi hFi).1).1) ?_
      refine gx_istore_n (lv' := [(2, .int (zenc (r (17 + 10 * i + 4)))), (0, .ref nb), (1, .int (nI i))]) hX dX3_statusOf_47 rfl (by decide) rfl ?_
      refine gx_iload_n hX 0 dX3_statusOf_48 rfl rfl ?_
      refine gx_callS (As := [.int (zenc (r (17 + 10 * i + 4)))]) (st := []) hC (c_X3_isErrorResult l Y σ (zenc (r (17 + 10 * i + 4)))) kX3_isErrorResult wm_RX3_222 rfl rfl rfl rfl dX3_statusOf_49 rfl (gx_ki fun r49 τ49 hq49 => ?_)
      obtain ⟨rfl, ⟨rfl, hb49⟩ | ⟨rfl, hb49⟩⟩ := hq49
      · refine gx_if_eq_f (tgt := 63) hX dX3_statusOf_52 (by decide) rfl (by decide) ?_
        refine gx_iload_n hX 0 dX3_statusOf_55 rfl rfl ?_
        refine gx_sipush (v := 10000) hX dX3_statusOf_56 rfl (by decide) ?_
        refine gx_isub hX dX3_statusOf_59 rfl ?_
        refine gx_goto (pc' := 64) hX dX3_statusOf_60 (by decide) ?_
        exact gx_iret hC dX3_statusOf_64 (⟨rfl, (zsta_2 h9 hFi).trans ((if_pos (zsta_e (zF5 hI1 (by omega) hi hFi).2 hb49).1).trans (zsta_e (zF5 hI1 (by omega) hi hFi).2 hb49).2)⟩)
      · refine gx_if_eq_t (tgt := 63) hX dX3_statusOf_52 (by decide) (by decide) ?_
        refine gx_iconst (v := 0) hX dX3_statusOf_63 rfl (by decide) ?_
        exact gx_iret hC dX3_statusOf_64 (⟨rfl, (zsta_2 h9 hFi).trans (if_neg (zsta_n (zF5 hI1 (by omega) hi hFi).2 hb49))⟩)
    · refine gx_if_ne_f (tgt := 35) hX dX3_statusOf_30 (by decide) rfl (by decide) ?_
      refine gx_iconst (v := 1) hX dX3_statusOf_33 rfl (by decide) ?_
      exact gx_iret hC dX3_statusOf_34 (⟨rfl, zsta_1 h9 (by rw [← hF i (by omega)]; exact hb27)⟩)
  · refine gx_aload_n hX 0 dX3_statusOf_12 rfl rfl ?_
    refine gx_get hC 4 inlX3 wf_RX3_31 rfl hM.1 rfl rfl rfl rfl dX3_statusOf_13 rfl ?_
    refine gx_get hC 4 inlX1 wf_RX3_100 rfl hM.2.2.2.2.1.1 rfl rfl rfl rfl dX3_statusOf_16 rfl ?_
    refine gx_iload_n hX 1 dX3_statusOf_19 rfl rfl ?_
    refine gx_iald (i := i) hC hM.2.2.2.2.1.2.2.2.2.2.1 rfl rfl (by omega) rfl dX3_statusOf_20 rfl ?_
    refine gx_topi (b := (qw (qg r n) i)) (hG.2.2.2.2.1 i hi) ?_
    exact gx_iret hC dX3_statusOf_21 (⟨rfl, if_pos h9⟩)

set_option maxRecDepth 100000 in
set_option maxHeartbeats 4000000 in
theorem c_X3_freshValueOf (l : Launch) (Y : gL) (nb : Nat) (σ : gS) (r : Nat → Int32) (n : Nat) (P : Nat → Nat → Int32) (q : Nat) (cn : Nat → Int32) (hM : zLC Y nb) (hA : zA Y nb σ (r, n, P, q, cn)) (B : Nat) (hBB : B + 12 < 2 ^ 30) (hI : qAI (r, n, P, q, cn) B) (i : Nat) (hi : i < n) : gM l yX3_freshValueOf cX3_freshValueOf 2 (some .int) (gRm 2 43) Y [.ref nb, .int (nI i)] σ (gI fun z τ => σ = τ ∧ qval (qg r n) r i = z) := by
  have hH : zH Y nb σ P q cn := hA.1
  have hB : zB Y σ (gF Y nb 0) r n := hA.2.1
  have hL : zL Y σ (gF Y nb 0) r := hA.2.2.1
  have hG : zG Y σ (gF Y nb 4) (qg r n) := hA.2.2.2.1
  have hF : zM (σ.1 nb 5) (qF (qg r n) r) := hA.2.2.2.2
  have hc := hH.1.1 _ hM.2.1
  have hn : n ≤ 12 := hB.2.1
  have hgn : qn (qg r n) = n := rfl
  have hm := qm_le (qg r n)
  have hI1 : qRI r n B := hI.1
  refine gM.of (by decide) rfl ?_
  intro p e s m args below meth c hC
  have hX := hC.1
  refine gx_aload_n hX 0 dX3_freshValueOf_0 rfl rfl ?_
  refine gx_iload_n hX 1 dX3_freshValueOf_1 rfl rfl ?_
  refine gx_callV (As := [.int (nI i)]) (st := []) hC (c_X3_statusOf l Y nb σ r n P q cn hM hA B hBB hI i (by omega)) kX3_statusOf wm_RX3_109 rfl hM.1 rfl rfl rfl rfl rfl dX3_freshValueOf_2 rfl (gx_ki fun r2 τ2 hq2 => ?_)
  obtain ⟨rfl, rfl⟩ := hq2
  refine gx_if_ne (tgt := 23) hX dX3_freshValueOf_5 (by decide) rfl (fun h5 => ?_) (fun h5 => ?_)
  · refine gx_sipush (v := (-10001)) hX dX3_freshValueOf_23 rfl (by decide) ?_
    exact gx_iret hC dX3_freshValueOf_26 (⟨rfl, if_neg h5⟩)
  · refine gx_aload_n hX 0 dX3_freshValueOf_8 rfl rfl ?_
    refine gx_get hC 0 inlX3 wf_RX3_12 rfl hM.1 rfl rfl rfl rfl dX3_freshValueOf_9 rfl ?_
    refine gx_get hC 0 inlX2 wf_RX3_63 rfl hM.2.1 rfl rfl rfl rfl dX3_freshValueOf_12 rfl ?_
    refine gx_iload_n hX 1 dX3_freshValueOf_15 rfl rfl ?_
    refine gx_aaldc (i := i) hC ((hM.2.2.2.2.2 _ hM.2.1).1) rfl rfl (by omega) rfl dX3_freshValueOf_16 rfl ?_
    refine gx_get hC 4 inlX0 wf_RX3_210 rfl ((hc i (by omega)).1) rfl rfl rfl rfl dX3_freshValueOf_17 rfl ?_
    refine gx_topi (b := (r (17 + 10 * i + 4))) (((hB.2.2.2.2.2.2 i hi).2.2.2.2.2.2 (zsta0 hI1 (by omega) hi h5).1).1.trans (zsta0 hI1 (by omega) hi h5).2) ?_
    refine gx_goto (pc' := 26) hX dX3_freshValueOf_20 (by decide) ?_
    exact gx_iret hC dX3_freshValueOf_26 (⟨rfl, if_pos h5⟩)

set_option maxRecDepth 100000 in
set_option maxHeartbeats 4000000 in
theorem c_X3_dependentsOf (l : Launch) (Y : gL) (nb : Nat) (σ : gS) (r : Nat → Int32) (n : Nat) (P : Nat → Nat → Int32) (q : Nat) (cn : Nat → Int32) (hM : zLC Y nb) (hA : zA Y nb σ (r, n, P, q, cn)) (B : Nat) (hBB : B + 12 < 2 ^ 30) (hI : qAI (r, n, P, q, cn) B) (i : Nat) (hi : i < n) : gM l yX3_dependentsOf cX3_dependentsOf 4 (some .int) (gRm 1 21) Y [.ref nb, .int (nI i)] σ (gI fun z τ => σ = τ ∧ qdpt (qg r n) i n = z) := by
  have hH : zH Y nb σ P q cn := hA.1
  have hB : zB Y σ (gF Y nb 0) r n := hA.2.1
  have hL : zL Y σ (gF Y nb 0) r := hA.2.2.1
  have hG : zG Y σ (gF Y nb 4) (qg r n) := hA.2.2.2.1
  have hF : zM (σ.1 nb 5) (qF (qg r n) r) := hA.2.2.2.2
  have hc := hH.1.1 _ hM.2.1
  have hn : n ≤ 12 := hB.2.1
  have hgn : qn (qg r n) = n := rfl
  have hm := qm_le (qg r n)
  have hI1 : qRI r n B := hI.1
  refine gM.of (by decide) rfl ?_
  intro p e s m args below meth c hC
  have hX := hC.1
  refine gx_iconst (v := 0) hX dX3_dependentsOf_0 rfl (by decide) ?_
  refine gx_istore_n (lv' := [(2, .int 0), (0, .ref nb), (1, .int (nI i))]) hX dX3_dependentsOf_1 rfl (by decide) rfl ?_
  refine gx_iconst (v := 0) hX dX3_dependentsOf_2 rfl (by decide) ?_
  refine gx_istore_n (lv' := [(3, .int 0), (2, .int 0), (0, .ref nb), (1, .int (nI i))]) hX dX3_dependentsOf_3 rfl (by decide) rfl ?_
  have L4 : ∀ (k4 : Nat) (k : Nat) (x : Int32), n - k < k4 → (k ≤ n) → (qdpt (qg r n) i k = x) → gG p l e (gRm 1 21) s m args below meth c Y (gI fun z τ => σ = τ ∧ qdpt (qg r n) i n = z) σ 4 [(0, .ref nb), (1, .int (nI i)), (2, .int x), (3, .int (nI k))] [] := by
    intro k4
    induction k4 with
    | zero => intro k x hk4; exact absurd hk4 (Nat.not_lt_zero _)
    | succ k4 ih4 =>
      intro k x hk4 hk hx
      refine gx_iload_n hX 3 dX3_dependentsOf_4 rfl rfl ?_
      refine gx_aload_n hX 0 dX3_dependentsOf_5 rfl rfl ?_
      refine gx_get hC 0 inlX3 wf_RX3_12 rfl hM.1 rfl rfl rfl rfl dX3_dependentsOf_6 rfl ?_
      refine gx_get hC 1 inlX2 wf_RX3_46 rfl hM.2.1 rfl rfl rfl rfl dX3_dependentsOf_9 rfl ?_
      refine gx_topi (b := (nI n)) hB.2.2.1 ?_
      refine gx_nat_ge (i := k) (j := n) (tgt := 43) hX dX3_dependentsOf_12 (by decide) rfl rfl rfl (by omega) (by omega) (fun h12 => ?_) (fun h12 => ?_)
      · refine gx_iload_n hX 2 dX3_dependentsOf_43 rfl rfl ?_
        exact gx_iret hC dX3_dependentsOf_44 (⟨rfl, by rw [← hx, show k = n by omega]⟩)
      · refine gx_aload_n hX 0 dX3_dependentsOf_15 rfl rfl ?_
        refine gx_get hC 4 inlX3 wf_RX3_31 rfl hM.1 rfl rfl rfl rfl dX3_dependentsOf_16 rfl ?_
        refine gx_get hC 3 inlX1 wf_RX3_103 rfl hM.2.2.2.2.1.1 rfl rfl rfl rfl dX3_dependentsOf_19 rfl ?_
        refine gx_iload_n hX 3 dX3_dependentsOf_22 rfl rfl ?_
        refine gx_iald (i := k) hC hM.2.2.2.2.1.2.2.2.2.1 rfl rfl (by omega) rfl dX3_dependentsOf_23 rfl ?_
        refine gx_iload_n hX 1 dX3_dependentsOf_24 rfl rfl ?_
        refine gx_callS (As := [.int (σ.1 (gF Y (gF Y nb 4) 3) k), .int (nI i)]) (st := []) hC (c_X3_contains l Y σ (σ.1 (gF Y (gF Y nb 4) 3) k) i (by omega)) kX3_contains wm_RX3_187 rfl rfl rfl rfl dX3_dependentsOf_25 rfl (gx_ki fun r25 τ25 hq25 => ?_)
        obtain ⟨rfl, ⟨rfl, hb25⟩ | ⟨rfl, hb25⟩⟩ := hq25
        · refine gx_if_eq_f (tgt := 37) hX dX3_dependentsOf_28 (by decide) rfl (by decide) ?_
          refine gx_iload_n hX 2 dX3_dependentsOf_31 rfl rfl ?_
          refine gx_iconst (v := 1) hX dX3_dependentsOf_32 rfl (by decide) ?_
          refine gx_iload_n hX 3 dX3_dependentsOf_33 rfl rfl ?_
          refine gx_ishl hX dX3_dependentsOf_34 rfl ?_
          refine gx_ior hX dX3_dependentsOf_35 rfl ?_
          refine gx_istore_n (lv' := [(2, .int (x ||| (1 <<< ((nI k) &&& 31)))), (0, .ref nb), (1, .int (nI i)), (3, .int (nI k))]) hX dX3_dependentsOf_36 rfl (by decide) rfl ?_
          refine gx_iinc (w := (nI (k + 1))) (lv' := [(3, .int (nI (k + 1))), (2, .int (x ||| (1 <<< ((nI k) &&& 31)))), (0, .ref nb), (1, .int (nI i))]) hX 3 dX3_dependentsOf_37 rfl rfl (nI_add _ _) (by decide) rfl ?_
          refine gx_goto (pc' := 4) hX dX3_dependentsOf_40 (by decide) ?_
          exact gx_sub [2, 3, 1, 0] rfl (ih4 (k + 1) (x ||| (1 <<< ((nI k) &&& 31))) (by omega) (by omega) (by rw [← hx]; exact (zdpt_y (by rw [← hG.2.2.2.1 k i h12 hi]; exact hb25)).symm))
        · refine gx_if_eq_t (tgt := 37) hX dX3_dependentsOf_28 (by decide) (by decide) ?_
          refine gx_iinc (w := (nI (k + 1))) (lv' := [(3, .int (nI (k + 1))), (0, .ref nb), (1, .int (nI i)), (2, .int x)]) hX 3 dX3_dependentsOf_37 rfl rfl (nI_add _ _) (by decide) rfl ?_
          refine gx_goto (pc' := 4) hX dX3_dependentsOf_40 (by decide) ?_
          exact gx_sub [1, 2, 3, 0] rfl (ih4 (k + 1) x (by omega) (by omega) ((zdpt_n (by rw [← hG.2.2.2.1 k i h12 hi]; exact hb25)).symm.trans hx))
  exact gx_sub [2, 3, 1, 0] rfl (L4 (n + 1) 0 0 (by omega) (by omega) rfl)

set_option maxRecDepth 100000 in
set_option maxHeartbeats 4000000 in
theorem c_X3_mix (l : Launch) (Y : gL) (σ : gS) (h : Int64) (x : Int32) : gM l yX3_mix cX3_mix 4 (some .long) (gRm 0 0) Y [.long h, .long ((x : Int32).toInt64)] σ (gJ fun z τ => σ = τ ∧ qmix h x = z) := by
  refine gM.of (by decide) rfl ?_
  intro p e s m args below meth c hC
  have hX := hC.1
  refine gx_ldc2 hC wk_RX3_176 dX3_mix_0 rfl ?_
  refine gx_lload_n hX 0 dX3_mix_3 rfl rfl ?_
  refine gx_lmul hX dX3_mix_4 rfl ?_
  refine gx_lload_n hX 1 dX3_mix_5 rfl rfl ?_
  refine gx_ladd hX dX3_mix_6 rfl ?_
  exact gx_lret hC dX3_mix_7 (⟨rfl, rfl⟩)

set_option maxRecDepth 100000 in
set_option maxHeartbeats 4000000 in
theorem c_X3_mixCell (l : Launch) (Y : gL) (nb : Nat) (σ : gS) (r : Nat → Int32) (n : Nat) (P : Nat → Nat → Int32) (q : Nat) (cn : Nat → Int32) (hM : zLC Y nb) (hA : zA Y nb σ (r, n, P, q, cn)) (B : Nat) (hBB : B + 12 < 2 ^ 30) (hI : qAI (r, n, P, q, cn) B) (h : Int64) (i : Nat) (hi : i < n) : gM l yX3_mixCell cX3_mixCell 7 (some .long) (gRm 3 64) Y [.ref nb, .long h, .int (nI i)] σ (gJ fun z τ => σ = τ ∧ qhc (qg r n) r i h = z) := by
  have hH : zH Y nb σ P q cn := hA.1
  have hB : zB Y σ (gF Y nb 0) r n := hA.2.1
  have hL : zL Y σ (gF Y nb 0) r := hA.2.2.1
  have hG : zG Y σ (gF Y nb 4) (qg r n) := hA.2.2.2.1
  have hF : zM (σ.1 nb 5) (qF (qg r n) r) := hA.2.2.2.2
  have hc := hH.1.1 _ hM.2.1
  have hn : n ≤ 12 := hB.2.1
  have hgn : qn (qg r n) = n := rfl
  have hm := qm_le (qg r n)
  have hI1 : qRI r n B := hI.1
  refine gM.of (by decide) rfl ?_
  intro p e s m args below meth c hC
  have hX := hC.1
  refine gx_aload_n hX 0 dX3_mixCell_0 rfl rfl ?_
  refine gx_get hC 0 inlX3 wf_RX3_12 rfl hM.1 rfl rfl rfl rfl dX3_mixCell_1 rfl ?_
  refine gx_get hC 0 inlX2 wf_RX3_63 rfl hM.2.1 rfl rfl rfl rfl dX3_mixCell_4 rfl ?_
  refine gx_iload_n hX 2 dX3_mixCell_7 rfl rfl ?_
  refine gx_aaldc (i := i) hC ((hM.2.2.2.2.2 _ hM.2.1).1) rfl rfl (by omega) rfl dX3_mixCell_8 rfl ?_
  refine gx_astore (lv' := [(4, .ref (σ.2.1 (gF Y (gF Y nb 0) 0) i)), (0, .ref nb), (1, .long h), (3, .int (nI i))]) hX dX3_mixCell_9 rfl (by decide) rfl ?_
  refine gx_lload_n hX 2 dX3_mixCell_11 rfl rfl ?_
  refine gx_aload hX 0 dX3_mixCell_12 rfl rfl ?_
  refine gx_get hC 0 inlX0 wf_RX3_67 rfl ((hc i (by omega)).1) rfl rfl rfl rfl dX3_mixCell_14 rfl ?_
  refine gx_topi (b := (r (17 + 10 * i + 0))) ((hB.2.2.2.2.2.2 i hi).1) ?_
  refine gx_i2l hX dX3_mixCell_17 rfl ?_
  refine gx_callS (As := [.long h, .long (((r (17 + 10 * i + 0)) : Int32).toInt64)]) (st := []) hC (c_X3_mix l Y σ h (r (17 + 10 * i + 0))) kX3_mix wm_RX3_159 rfl rfl rfl rfl dX3_mixCell_18 rfl (gx_kj fun r18 τ18 hq18 => ?_)
  obtain ⟨rfl, rfl⟩ := hq18
  refine gx_lstore (lv' := [(5, .long (qmix h (r (17 + 10 * i + 0)))), (4, .ref (σ.2.1 (gF Y (gF Y nb 0) 0) i)), (0, .ref nb), (1, .long h), (3, .int (nI i))]) hX dX3_mixCell_21 rfl (by decide) rfl ?_
  refine gx_lload hX 0 dX3_mixCell_23 rfl rfl ?_
  refine gx_aload hX 1 dX3_mixCell_25 rfl rfl ?_
  refine gx_get hC 1 inlX0 wf_RX3_167 rfl ((hc i (by omega)).1) rfl rfl rfl rfl dX3_mixCell_27 rfl ?_
  refine gx_topi (b := (r (17 + 10 * i + 1))) ((hB.2.2.2.2.2.2 i hi).2.1) ?_
  refine gx_i2l hX dX3_mixCell_30 rfl ?_
  refine gx_callS (As := [.long (qmix h (r (17 + 10 * i + 0))), .long (((r (17 + 10 * i + 1)) : Int32).toInt64)]) (st := []) hC (c_X3_mix l Y σ (qmix h (r (17 + 10 * i + 0))) (r (17 + 10 * i + 1))) kX3_mix wm_RX3_159 rfl rfl rfl rfl dX3_mixCell_31 rfl (gx_kj fun r31 τ31 hq31 => ?_)
  obtain ⟨rfl, rfl⟩ := hq31
  refine gx_lstore (lv' := [(5, .long (qmix (qmix h (r (17 + 10 * i + 0))) (r (17 + 10 * i + 1)))), (4, .ref (σ.2.1 (gF Y (gF Y nb 0) 0) i)), (0, .ref nb), (1, .long h), (3, .int (nI i))]) hX dX3_mixCell_34 rfl (by decide) rfl ?_
  refine gx_lload hX 0 dX3_mixCell_36 rfl rfl ?_
  refine gx_aload hX 1 dX3_mixCell_38 rfl rfl ?_
  refine gx_get hC 2 inlX0 wf_RX3_170 rfl ((hc i (by omega)).1) rfl rfl rfl rfl dX3_mixCell_40 rfl ?_
  refine gx_topi (b := (r (17 + 10 * i + 2))) ((hB.2.2.2.2.2.2 i hi).2.2.1) ?_
  refine gx_i2l hX dX3_mixCell_43 rfl ?_
  refine gx_callS (As := [.long (qmix (qmix h (r (17 + 10 * i + 0))) (r (17 + 10 * i + 1))), .long (((r (17 + 10 * i + 2)) : Int32).toInt64)]) (st := []) hC (c_X3_mix l Y σ (qmix (qmix h (r (17 + 10 * i + 0))) (r (17 + 10 * i + 1))) (r (17 + 10 * i + 2))) kX3_mix wm_RX3_159 rfl rfl rfl rfl dX3_mixCell_44 rfl (gx_kj fun r44 τ44 hq44 => ?_)
  obtain ⟨rfl, rfl⟩ := hq44
  refine gx_lstore (lv' := [(5, .long (qmix (qmix (qmix h (r (17 + 10 * i + 0))) (r (17 + 10 * i + 1))) (r (17 + 10 * i + 2)))), (4, .ref (σ.2.1 (gF Y (gF Y nb 0) 0) i)), (0, .ref nb), (1, .long h), (3, .int (nI i))]) hX dX3_mixCell_47 rfl (by decide) rfl ?_
  refine gx_lload hX 0 dX3_mixCell_49 rfl rfl ?_
  refine gx_aload hX 1 dX3_mixCell_51 rfl rfl ?_
  refine gx_get hC 3 inlX0 wf_RX3_173 rfl ((hc i (by omega)).1) rfl rfl rfl rfl dX3_mixCell_53 rfl ?_
  refine gx_topi (b := (r (17 + 10 * i + 3))) ((hB.2.2.2.2.2.2 i hi).2.2.2.1) ?_
  refine gx_i2l hX dX3_mixCell_56 rfl ?_
  refine gx_callS (As := [.long (qmix (qmix (qmix h (r (17 + 10 * i + 0))) (r (17 + 10 * i + 1))) (r (17 + 10 * i + 2))), .long (((r (17 + 10 * i + 3)) : Int32).toInt64)]) (st := []) hC (c_X3_mix l Y σ (qmix (qmix (qmix h (r (17 + 10 * i + 0))) (r (17 + 10 * i + 1))) (r (17 + 10 * i + 2))) (r (17 + 10 * i + 3))) kX3_mix wm_RX3_159 rfl rfl rfl rfl dX3_mixCell_57 rfl (gx_kj fun r57 τ57 hq57 => ?_)
  obtain ⟨rfl, rfl⟩ := hq57
  refine gx_lstore (lv' := [(5, .long (qmix (qmix (qmix (qmix h (r (17 + 10 * i + 0))) (r (17 + 10 * i + 1))) (r (17 + 10 * i + 2))) (r (17 + 10 * i + 3)))), (4, .ref (σ.2.1 (gF Y (gF Y nb 0) 0) i)), (0, .ref nb), (1, .long h), (3, .int (nI i))]) hX dX3_mixCell_60 rfl (by decide) rfl ?_
  refine gx_lload hX 0 dX3_mixCell_62 rfl rfl ?_
  refine gx_aload_n hX 2 dX3_mixCell_64 rfl rfl ?_
  refine gx_iload_n hX 4 dX3_mixCell_65 rfl rfl ?_
  refine gx_callV (As := [.int (nI i)]) (st := [.long (qmix (qmix (qmix (qmix h (r (17 + 10 * i + 0))) (r (17 + 10 * i + 1))) (r (17 + 10 * i + 2))) (r (17 + 10 * i + 3)))]) hC (c_X3_statusOf l Y nb σ r n P q cn hM hA B hBB hI i (by omega)) kX3_statusOf wm_RX3_109 rfl hM.1 rfl rfl rfl rfl rfl dX3_mixCell_66 rfl (gx_ki fun r66 τ66 hq66 => ?_)
  obtain ⟨rfl, rfl⟩ := hq66
  refine gx_i2l hX dX3_mixCell_69 rfl ?_
  refine gx_callS (As := [.long (qmix (qmix (qmix (qmix h (r (17 + 10 * i + 0))) (r (17 + 10 * i + 1))) (r (17 + 10 * i + 2))) (r (17 + 10 * i + 3))), .long (((qsta (qg r n) r i) : Int32).toInt64)]) (st := []) hC (c_X3_mix l Y σ (qmix (qmix (qmix (qmix h (r (17 + 10 * i + 0))) (r (17 + 10 * i + 1))) (r (17 + 10 * i + 2))) (r (17 + 10 * i + 3))) (qsta (qg r n) r i)) kX3_mix wm_RX3_159 rfl rfl rfl rfl dX3_mixCell_70 rfl (gx_kj fun r70 τ70 hq70 => ?_)
  obtain ⟨rfl, rfl⟩ := hq70
  refine gx_lstore (lv' := [(5, .long (qmix (qmix (qmix (qmix (qmix h (r (17 + 10 * i + 0))) (r (17 + 10 * i + 1))) (r (17 + 10 * i + 2))) (r (17 + 10 * i + 3))) (qsta (qg r n) r i))), (4, .ref (σ.2.1 (gF Y (gF Y nb 0) 0) i)), (0, .ref nb), (1, .long h), (3, .int (nI i))]) hX dX3_mixCell_73 rfl (by decide) rfl ?_
  refine gx_lload hX 0 dX3_mixCell_75 rfl rfl ?_
  refine gx_aload_n hX 2 dX3_mixCell_77 rfl rfl ?_
  refine gx_iload_n hX 4 dX3_mixCell_78 rfl rfl ?_
  refine gx_callV (As := [.int (nI i)]) (st := [.long (qmix (qmix (qmix (qmix (qmix h (r (17 + 10 * i + 0))) (r (17 + 10 * i + 1))) (r (17 + 10 * i + 2))) (r (17 + 10 * i + 3))) (qsta (qg r n) r i))]) hC (c_X3_freshValueOf l Y nb σ r n P q cn hM hA B hBB hI i (by omega)) kX3_freshValueOf wm_RX3_112 rfl hM.1 rfl rfl rfl rfl rfl dX3_mixCell_79 rfl (gx_ki fun r79 τ79 hq79 => ?_)
  obtain ⟨rfl, rfl⟩ := hq79
  refine gx_i2l hX dX3_mixCell_82 rfl ?_
  refine gx_callS (As := [.long (qmix (qmix (qmix (qmix (qmix h (r (17 + 10 * i + 0))) (r (17 + 10 * i + 1))) (r (17 + 10 * i + 2))) (r (17 + 10 * i + 3))) (qsta (qg r n) r i)), .long (((qval (qg r n) r i) : Int32).toInt64)]) (st := []) hC (c_X3_mix l Y σ (qmix (qmix (qmix (qmix (qmix h (r (17 + 10 * i + 0))) (r (17 + 10 * i + 1))) (r (17 + 10 * i + 2))) (r (17 + 10 * i + 3))) (qsta (qg r n) r i)) (qval (qg r n) r i)) kX3_mix wm_RX3_159 rfl rfl rfl rfl dX3_mixCell_83 rfl (gx_kj fun r83 τ83 hq83 => ?_)
  obtain ⟨rfl, rfl⟩ := hq83
  refine gx_lstore (lv' := [(5, .long (qmix (qmix (qmix (qmix (qmix (qmix h (r (17 + 10 * i + 0))) (r (17 + 10 * i + 1))) (r (17 + 10 * i + 2))) (r (17 + 10 * i + 3))) (qsta (qg r n) r i)) (qval (qg r n) r i))), (4, .ref (σ.2.1 (gF Y (gF Y nb 0) 0) i)), (0, .ref nb), (1, .long h), (3, .int (nI i))]) hX dX3_mixCell_86 rfl (by decide) rfl ?_
  refine gx_lload hX 0 dX3_mixCell_88 rfl rfl ?_
  refine gx_aload hX 1 dX3_mixCell_90 rfl rfl ?_
  refine gx_get hC 5 inlX0 wf_RX3_121 rfl ((hc i (by omega)).1) rfl rfl rfl rfl dX3_mixCell_92 rfl ?_
  refine gx_topi (b := (r (17 + 10 * i + 5))) ((hB.2.2.2.2.2.2 i hi).2.2.2.2.1) ?_
  refine gx_i2l hX dX3_mixCell_95 rfl ?_
  refine gx_callS (As := [.long (qmix (qmix (qmix (qmix (qmix (qmix h (r (17 + 10 * i + 0))) (r (17 + 10 * i + 1))) (r (17 + 10 * i + 2))) (r (17 + 10 * i + 3))) (qsta (qg r n) r i)) (qval (qg r n) r i)), .long (((r (17 + 10 * i + 5)) : Int32).toInt64)]) (st := []) hC (c_X3_mix l Y σ (qmix (qmix (qmix (qmix (qmix (qmix h (r (17 + 10 * i + 0))) (r (17 + 10 * i + 1))) (r (17 + 10 * i + 2))) (r (17 + 10 * i + 3))) (qsta (qg r n) r i)) (qval (qg r n) r i)) (r (17 + 10 * i + 5))) kX3_mix wm_RX3_159 rfl rfl rfl rfl dX3_mixCell_96 rfl (gx_kj fun r96 τ96 hq96 => ?_)
  obtain ⟨rfl, rfl⟩ := hq96
  refine gx_lstore (lv' := [(5, .long (qmix (qmix (qmix (qmix (qmix (qmix (qmix h (r (17 + 10 * i + 0))) (r (17 + 10 * i + 1))) (r (17 + 10 * i + 2))) (r (17 + 10 * i + 3))) (qsta (qg r n) r i)) (qval (qg r n) r i)) (r (17 + 10 * i + 5)))), (4, .ref (σ.2.1 (gF Y (gF Y nb 0) 0) i)), (0, .ref nb), (1, .long h), (3, .int (nI i))]) hX dX3_mixCell_99 rfl (by decide) rfl ?_
  refine gx_lload hX 0 dX3_mixCell_101 rfl rfl ?_
  refine gx_aload hX 1 dX3_mixCell_103 rfl rfl ?_
  refine gx_get hC 8 inlX0 wf_RX3_124 rfl ((hc i (by omega)).1) rfl rfl rfl rfl dX3_mixCell_105 rfl ?_
  refine gx_topi (b := (r (17 + 10 * i + 8))) ((hB.2.2.2.2.2.2 i hi).2.2.2.2.2.1) ?_
  refine gx_i2l hX dX3_mixCell_108 rfl ?_
  refine gx_callS (As := [.long (qmix (qmix (qmix (qmix (qmix (qmix (qmix h (r (17 + 10 * i + 0))) (r (17 + 10 * i + 1))) (r (17 + 10 * i + 2))) (r (17 + 10 * i + 3))) (qsta (qg r n) r i)) (qval (qg r n) r i)) (r (17 + 10 * i + 5))), .long (((r (17 + 10 * i + 8)) : Int32).toInt64)]) (st := []) hC (c_X3_mix l Y σ (qmix (qmix (qmix (qmix (qmix (qmix (qmix h (r (17 + 10 * i + 0))) (r (17 + 10 * i + 1))) (r (17 + 10 * i + 2))) (r (17 + 10 * i + 3))) (qsta (qg r n) r i)) (qval (qg r n) r i)) (r (17 + 10 * i + 5))) (r (17 + 10 * i + 8))) kX3_mix wm_RX3_159 rfl rfl rfl rfl dX3_mixCell_109 rfl (gx_kj fun r109 τ109 hq109 => ?_)
  obtain ⟨rfl, rfl⟩ := hq109
  refine gx_lstore (lv' := [(5, .long (qmix (qmix (qmix (qmix (qmix (qmix (qmix (qmix h (r (17 + 10 * i + 0))) (r (17 + 10 * i + 1))) (r (17 + 10 * i + 2))) (r (17 + 10 * i + 3))) (qsta (qg r n) r i)) (qval (qg r n) r i)) (r (17 + 10 * i + 5))) (r (17 + 10 * i + 8)))), (4, .ref (σ.2.1 (gF Y (gF Y nb 0) 0) i)), (0, .ref nb), (1, .long h), (3, .int (nI i))]) hX dX3_mixCell_112 rfl (by decide) rfl ?_
  refine gx_lload hX 0 dX3_mixCell_114 rfl rfl ?_
  refine gx_aload_n hX 2 dX3_mixCell_116 rfl rfl ?_
  refine gx_get hC 4 inlX3 wf_RX3_31 rfl hM.1 rfl rfl rfl rfl dX3_mixCell_117 rfl ?_
  refine gx_get hC 2 inlX1 wf_RX3_130 rfl hM.2.2.2.2.1.1 rfl rfl rfl rfl dX3_mixCell_120 rfl ?_
  refine gx_iload_n hX 4 dX3_mixCell_123 rfl rfl ?_
  refine gx_iald (i := i) hC hM.2.2.2.2.1.2.2.2.1 rfl rfl (by omega) rfl dX3_mixCell_124 rfl ?_
  refine gx_topi (b := (qdir (qg r n) i)) (hG.2.2.1 i hi) ?_
  refine gx_i2l hX dX3_mixCell_125 rfl ?_
  refine gx_callS (As := [.long (qmix (qmix (qmix (qmix (qmix (qmix (qmix (qmix h (r (17 + 10 * i + 0))) (r (17 + 10 * i + 1))) (r (17 + 10 * i + 2))) (r (17 + 10 * i + 3))) (qsta (qg r n) r i)) (qval (qg r n) r i)) (r (17 + 10 * i + 5))) (r (17 + 10 * i + 8))), .long (((qdir (qg r n) i) : Int32).toInt64)]) (st := []) hC (c_X3_mix l Y σ (qmix (qmix (qmix (qmix (qmix (qmix (qmix (qmix h (r (17 + 10 * i + 0))) (r (17 + 10 * i + 1))) (r (17 + 10 * i + 2))) (r (17 + 10 * i + 3))) (qsta (qg r n) r i)) (qval (qg r n) r i)) (r (17 + 10 * i + 5))) (r (17 + 10 * i + 8))) (qdir (qg r n) i)) kX3_mix wm_RX3_159 rfl rfl rfl rfl dX3_mixCell_126 rfl (gx_kj fun r126 τ126 hq126 => ?_)
  obtain ⟨rfl, rfl⟩ := hq126
  refine gx_lstore (lv' := [(5, .long (qmix (qmix (qmix (qmix (qmix (qmix (qmix (qmix (qmix h (r (17 + 10 * i + 0))) (r (17 + 10 * i + 1))) (r (17 + 10 * i + 2))) (r (17 + 10 * i + 3))) (qsta (qg r n) r i)) (qval (qg r n) r i)) (r (17 + 10 * i + 5))) (r (17 + 10 * i + 8))) (qdir (qg r n) i))), (4, .ref (σ.2.1 (gF Y (gF Y nb 0) 0) i)), (0, .ref nb), (1, .long h), (3, .int (nI i))]) hX dX3_mixCell_129 rfl (by decide) rfl ?_
  refine gx_lload hX 0 dX3_mixCell_131 rfl rfl ?_
  refine gx_aload_n hX 2 dX3_mixCell_133 rfl rfl ?_
  refine gx_iload_n hX 4 dX3_mixCell_134 rfl rfl ?_
  refine gx_callV (As := [.int (nI i)]) (st := [.long (qmix (qmix (qmix (qmix (qmix (qmix (qmix (qmix (qmix h (r (17 + 10 * i + 0))) (r (17 + 10 * i + 1))) (r (17 + 10 * i + 2))) (r (17 + 10 * i + 3))) (qsta (qg r n) r i)) (qval (qg r n) r i)) (r (17 + 10 * i + 5))) (r (17 + 10 * i + 8))) (qdir (qg r n) i))]) hC (c_X3_dependentsOf l Y nb σ r n P q cn hM hA B hBB hI i (by omega)) kX3_dependentsOf wm_RX3_133 rfl hM.1 rfl rfl rfl rfl rfl dX3_mixCell_135 rfl (gx_ki fun r135 τ135 hq135 => ?_)
  obtain ⟨rfl, rfl⟩ := hq135
  refine gx_i2l hX dX3_mixCell_138 rfl ?_
  refine gx_callS (As := [.long (qmix (qmix (qmix (qmix (qmix (qmix (qmix (qmix (qmix h (r (17 + 10 * i + 0))) (r (17 + 10 * i + 1))) (r (17 + 10 * i + 2))) (r (17 + 10 * i + 3))) (qsta (qg r n) r i)) (qval (qg r n) r i)) (r (17 + 10 * i + 5))) (r (17 + 10 * i + 8))) (qdir (qg r n) i)), .long (((qdpt (qg r n) i n) : Int32).toInt64)]) (st := []) hC (c_X3_mix l Y σ (qmix (qmix (qmix (qmix (qmix (qmix (qmix (qmix (qmix h (r (17 + 10 * i + 0))) (r (17 + 10 * i + 1))) (r (17 + 10 * i + 2))) (r (17 + 10 * i + 3))) (qsta (qg r n) r i)) (qval (qg r n) r i)) (r (17 + 10 * i + 5))) (r (17 + 10 * i + 8))) (qdir (qg r n) i)) (qdpt (qg r n) i n)) kX3_mix wm_RX3_159 rfl rfl rfl rfl dX3_mixCell_139 rfl (gx_kj fun r139 τ139 hq139 => ?_)
  obtain ⟨rfl, rfl⟩ := hq139
  exact gx_lret hC dX3_mixCell_142 (⟨rfl, rfl⟩)
