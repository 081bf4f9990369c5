set_option maxRecDepth 100000 in
set_option maxHeartbeats 4000000 in
theorem c_X4_runOne (l : Launch) (Y : gL) (mo : Nat) (σ : gS) (r : Nat → Int32) (n : Nat) (hM : gLM Y mo) (hr : gRow Y mo σ r n) (i k : Nat) (hi : i < n) (hk : k < 12) (h4 : r 4 = nI k) (hsl : ¬ r (17 + 10 * i + 2) < 100 → qsrc (qg r n) (r (17 + 10 * i + 2)) < 12) (hsr : ¬ r (17 + 10 * i + 3) < 100 → qsrc (qg r n) (r (17 + 10 * i + 3)) < 12) : gM l yX4_runOne cX4_runOne 3 none (gRm 6 134) Y [.ref mo, .int (nI i)] σ (gV fun τ => gEq Y [16] σ τ ∧ gRow Y mo τ (qrun (qg r n) r i) n) := by
  have hq1 := hr.1
  have hq2 := hr.2.1
  have hq3 := hr.2.2
  refine gM.of (by decide) rfl ?_
  intro p e s m args below meth c hC
  have hX := hC.1
  have J62 : ∀ (τ : gS), (gEq Y [16] σ τ) → (gRow Y mo τ (qr1 (qg r n) r i) n) → gG p l e (gRm 6 134) s m args below meth c Y (gV fun τ => gEq Y [16] σ τ ∧ gRow Y mo τ (qrun (qg r n) r i) n) τ 62 [(0, .ref mo), (1, .int (nI i))] [] := by
    intro τ he hrt
    refine gx_aload_n hX 0 dX4_runOne_62 rfl rfl ?_
    refine gx_get hC 0 inlX4 wf_RX4_7 rfl (gM0 hM) rfl rfl rfl rfl dX4_runOne_63 rfl ?_
    refine gx_iload_n hX 1 dX4_runOne_66 rfl rfl ?_
    refine gx_bipush (v := 6) hX dX4_runOne_67 rfl (by decide) ?_
    refine gx_callS (As := [.int (nI i), .int 6]) (st := [.ref (gF Y mo 0)]) hC (c_X4_at l Y τ i 6) kX4_at wm_RX4_38 rfl rfl rfl rfl dX4_runOne_69 rfl (gx_ki fun r69 τ69 hq69 => ?_)
    obtain ⟨rfl, rfl⟩ := hq69
    refine gx_aload_n hX 0 dX4_runOne_72 rfl rfl ?_
    refine gx_aload_n hX 0 dX4_runOne_73 rfl rfl ?_
    refine gx_iload_n hX 1 dX4_runOne_74 rfl rfl ?_
    refine gx_iconst (v := 2) hX dX4_runOne_75 rfl (by decide) ?_
    refine gx_callV (As := [.int (nI i), .int 2]) (st := [.ref mo, .int (nI (17 + 10 * i + 6)), .ref (gF Y mo 0)]) hC (c_X4_get l Y mo τ (qr1 (qg r n) r i) i 2 hM hrt.1 (by omega)) kX4_get wm_RX4_50 rfl (gM0 hM) rfl rfl rfl rfl rfl dX4_runOne_76 rfl (gx_ki fun r76 τ76 hq76 => ?_)
    obtain ⟨rfl, rfl⟩ := hq76
    refine gx_topi (b := (r (17 + 10 * i + 2))) (qr1_off (by omega) (by omega) (by omega)) ?_
    refine gx_callV (As := [.int (r (17 + 10 * i + 2))]) (st := [.int (nI (17 + 10 * i + 6)), .ref (gF Y mo 0)]) hC (c_X4_versionOf l Y mo τ (qr1 (qg r n) r i) n hM hrt (r (17 + 10 * i + 2)) (by rw [qg_r1]; exact hsl)) kX4_versionOf wm_RX4_99 rfl (gM0 hM) rfl rfl rfl rfl rfl dX4_runOne_79 rfl (gx_ki fun r79 τ79 hq79 => ?_)
    obtain ⟨rfl, rfl⟩ := hq79
    refine gx_topi (b := (qvo (qg r n) (qr1 (qg r n) r i) (r (17 + 10 * i + 2)))) (by rw [qg_r1]) ?_
    refine gx_iast (i := 17 + 10 * i + 6) hC (gM1 hM) rfl rfl rfl rfl (by omega) rfl dX4_runOne_82 rfl ?_
    have hr2 : gRow Y mo (uI τ (gF Y mo 0) (17 + 10 * i + 6) (qvo (qg r n) (qr1 (qg r n) r i) (r (17 + 10 * i + 2)))) (qr2 (qg r n) r i) n := hrt.now (by omega)
    refine gx_aload_n hX 0 dX4_runOne_83 rfl rfl ?_
    refine gx_get hC 0 inlX4 wf_RX4_7 rfl (gM0 hM) rfl rfl rfl rfl dX4_runOne_84 rfl ?_
    refine gx_iload_n hX 1 dX4_runOne_87 rfl rfl ?_
    refine gx_bipush (v := 7) hX dX4_runOne_88 rfl (by decide) ?_
    refine gx_callS (As := [.int (nI i), .int 7]) (st := [.ref (gF Y mo 0)]) hC (c_X4_at l Y (uI τ (gF Y mo 0) (17 + 10 * i + 6) (qvo (qg r n) (qr1 (qg r n) r i) (r (17 + 10 * i + 2)))) i 7) kX4_at wm_RX4_38 rfl rfl rfl rfl dX4_runOne_90 rfl (gx_ki fun r90 τ90 hq90 => ?_)
    obtain ⟨rfl, rfl⟩ := hq90
    refine gx_aload_n hX 0 dX4_runOne_93 rfl rfl ?_
    refine gx_aload_n hX 0 dX4_runOne_94 rfl rfl ?_
    refine gx_iload_n hX 1 dX4_runOne_95 rfl rfl ?_
    refine gx_iconst (v := 3) hX dX4_runOne_96 rfl (by decide) ?_
    refine gx_callV (As := [.int (nI i), .int 3]) (st := [.ref mo, .int (nI (17 + 10 * i + 7)), .ref (gF Y mo 0)]) hC (c_X4_get l Y mo (uI τ (gF Y mo 0) (17 + 10 * i + 6) (qvo (qg r n) (qr1 (qg r n) r i) (r (17 + 10 * i + 2)))) (qr2 (qg r n) r i) i 3 hM hr2.1 (by omega)) kX4_get wm_RX4_50 rfl (gM0 hM) rfl rfl rfl rfl rfl dX4_runOne_97 rfl (gx_ki fun r97 τ97 hq97 => ?_)
    obtain ⟨rfl, rfl⟩ := hq97
    refine gx_topi (b := (r (17 + 10 * i + 3))) (qr2_off (by omega) (by omega) (by omega) (by omega)) ?_
    refine gx_callV (As := [.int (r (17 + 10 * i + 3))]) (st := [.int (nI (17 + 10 * i + 7)), .ref (gF Y mo 0)]) hC (c_X4_versionOf l Y mo (uI τ (gF Y mo 0) (17 + 10 * i + 6) (qvo (qg r n) (qr1 (qg r n) r i) (r (17 + 10 * i + 2)))) (qr2 (qg r n) r i) n hM hr2 (r (17 + 10 * i + 3)) (by rw [qg_r2]; exact hsr)) kX4_versionOf wm_RX4_99 rfl (gM0 hM) rfl rfl rfl rfl rfl dX4_runOne_100 rfl (gx_ki fun r100 τ100 hq100 => ?_)
    obtain ⟨rfl, rfl⟩ := hq100
    refine gx_topi (b := (qvo (qg r n) (qr2 (qg r n) r i) (r (17 + 10 * i + 3)))) (by rw [qg_r2]) ?_
    refine gx_iast (i := 17 + 10 * i + 7) hC (gM1 hM) rfl rfl rfl rfl (by omega) rfl dX4_runOne_103 rfl ?_
    have hr3 : gRow Y mo (uI (uI τ (gF Y mo 0) (17 + 10 * i + 6) (qvo (qg r n) (qr1 (qg r n) r i) (r (17 + 10 * i + 2)))) (gF Y mo 0) (17 + 10 * i + 7) (qvo (qg r n) (qr2 (qg r n) r i) (r (17 + 10 * i + 3)))) (qr3 (qg r n) r i) n := hr2.now (by omega)
    refine gx_aload_n hX 0 dX4_runOne_104 rfl rfl ?_
    refine gx_get hC 0 inlX4 wf_RX4_7 rfl (gM0 hM) rfl rfl rfl rfl dX4_runOne_105 rfl ?_
    refine gx_iload_n hX 1 dX4_runOne_108 rfl rfl ?_
    refine gx_bipush (v := 8) hX dX4_runOne_109 rfl (by decide) ?_
    refine gx_callS (As := [.int (nI i), .int 8]) (st := [.ref (gF Y mo 0)]) hC (c_X4_at l Y (uI (uI τ (gF Y mo 0) (17 + 10 * i + 6) (qvo (qg r n) (qr1 (qg r n) r i) (r (17 + 10 * i + 2)))) (gF Y mo 0) (17 + 10 * i + 7) (qvo (qg r n) (qr2 (qg r n) r i) (r (17 + 10 * i + 3)))) i 8) kX4_at wm_RX4_38 rfl rfl rfl rfl dX4_runOne_111 rfl (gx_ki fun r111 τ111 hq111 => ?_)
    obtain ⟨rfl, rfl⟩ := hq111
    refine gx_dup2 hX dX4_runOne_114 rfl rfl rfl ?_
    refine gx_iald (i := 17 + 10 * i + 8) hC (gM1 hM) rfl rfl (by omega) rfl dX4_runOne_115 rfl ?_
    refine gx_topi (b := (r (17 + 10 * i + 8))) (by rw [hr3.1]; exact qr3_off (by omega) (by omega) (by omega) (by omega) (by omega)) ?_
    refine gx_iconst (v := 1) hX dX4_runOne_116 rfl (by decide) ?_
    refine gx_iadd hX dX4_runOne_117 rfl ?_
    refine gx_iast (i := 17 + 10 * i + 8) hC (gM1 hM) rfl rfl rfl rfl (by omega) rfl dX4_runOne_118 rfl ?_
    have hr4a : gRow Y mo (uI (uI (uI τ (gF Y mo 0) (17 + 10 * i + 6) (qvo (qg r n) (qr1 (qg r n) r i) (r (17 + 10 * i + 2)))) (gF Y mo 0) (17 + 10 * i + 7) (qvo (qg r n) (qr2 (qg r n) r i) (r (17 + 10 * i + 3)))) (gF Y mo 0) (17 + 10 * i + 8) (r (17 + 10 * i + 8) + 1)) (qup (qr3 (qg r n) r i) (17 + 10 * i + 8) (r (17 + 10 * i + 8) + 1)) n := hr3.now (by omega)
    refine gx_aload_n hX 0 dX4_runOne_119 rfl rfl ?_
    refine gx_get hC 0 inlX4 wf_RX4_7 rfl (gM0 hM) rfl rfl rfl rfl dX4_runOne_120 rfl ?_
    refine gx_iconst (v := 3) hX dX4_runOne_123 rfl (by decide) ?_
    refine gx_dup2 hX dX4_runOne_124 rfl rfl rfl ?_
    refine gx_iald (i := 3) hC (gM1 hM) rfl rfl (by omega) rfl dX4_runOne_125 rfl ?_
    refine gx_topi (b := (r 3)) (by rw [hr4a.1, qup_off (by omega)]; exact qr3_off (by omega) (by omega) (by omega) (by omega) (by omega)) ?_
    refine gx_iconst (v := 1) hX dX4_runOne_126 rfl (by decide) ?_
    refine gx_iadd hX dX4_runOne_127 rfl ?_
    refine gx_iast (i := 3) hC (gM1 hM) rfl rfl rfl rfl (by omega) rfl dX4_runOne_128 rfl ?_
    have hr4 : gRow Y mo (uI (uI (uI (uI τ (gF Y mo 0) (17 + 10 * i + 6) (qvo (qg r n) (qr1 (qg r n) r i) (r (17 + 10 * i + 2)))) (gF Y mo 0) (17 + 10 * i + 7) (qvo (qg r n) (qr2 (qg r n) r i) (r (17 + 10 * i + 3)))) (gF Y mo 0) (17 + 10 * i + 8) (r (17 + 10 * i + 8) + 1)) (gF Y mo 0) 3 (r 3 + 1)) (qr4 (qg r n) r i) n := hr4a.now (by omega)
    refine gx_aload_n hX 0 dX4_runOne_129 rfl rfl ?_
    refine gx_get hC 0 inlX4 wf_RX4_7 rfl (gM0 hM) rfl rfl rfl rfl dX4_runOne_130 rfl ?_
    refine gx_iconst (v := 5) hX dX4_runOne_133 rfl (by decide) ?_
    refine gx_aload_n hX 0 dX4_runOne_134 rfl rfl ?_
    refine gx_get hC 0 inlX4 wf_RX4_7 rfl (gM0 hM) rfl rfl rfl rfl dX4_runOne_135 rfl ?_
    refine gx_iconst (v := 4) hX dX4_runOne_138 rfl (by decide) ?_
    refine gx_iald (i := 4) hC (gM1 hM) rfl rfl (by omega) rfl dX4_runOne_139 rfl ?_
    refine gx_topi (b := (nI k)) (by rw [hr4.1]; exact (qr4_off (by omega) (by omega) (by omega) (by omega) (by omega) (by omega) (by omega)).trans h4) ?_
    refine gx_iaddN (i := 5) (j := k) hX dX4_runOne_140 rfl rfl rfl ?_
    refine gx_iload_n hX 1 dX4_runOne_141 rfl rfl ?_
    refine gx_iast (i := 5 + k) hC (gM1 hM) rfl rfl rfl rfl (by omega) rfl dX4_runOne_142 rfl ?_
    have hr5 : gRow Y mo (uI (uI (uI (uI (uI τ (gF Y mo 0) (17 + 10 * i + 6) (qvo (qg r n) (qr1 (qg r n) r i) (r (17 + 10 * i + 2)))) (gF Y mo 0) (17 + 10 * i + 7) (qvo (qg r n) (qr2 (qg r n) r i) (r (17 + 10 * i + 3)))) (gF Y mo 0) (17 + 10 * i + 8) (r (17 + 10 * i + 8) + 1)) (gF Y mo 0) 3 (r 3 + 1)) (gF Y mo 0) (5 + k) (nI i)) (qup (qr4 (qg r n) r i) (5 + k) (nI i)) n := hr4.now (by omega)
    refine gx_aload_n hX 0 dX4_runOne_143 rfl rfl ?_
    refine gx_get hC 0 inlX4 wf_RX4_7 rfl (gM0 hM) rfl rfl rfl rfl dX4_runOne_144 rfl ?_
    refine gx_iconst (v := 4) hX dX4_runOne_147 rfl (by decide) ?_
    refine gx_dup2 hX dX4_runOne_148 rfl rfl rfl ?_
    refine gx_iald (i := 4) hC (gM1 hM) rfl rfl (by omega) rfl dX4_runOne_149 rfl ?_
    refine gx_topi (b := (nI k)) (by rw [hr5.1, qup_off (by omega)]; exact (qr4_off (by omega) (by omega) (by omega) (by omega) (by omega) (by omega) (by omega)).trans h4) ?_
    refine gx_iconst (v := 1) hX dX4_runOne_150 rfl (by decide) ?_
    refine gx_iaddN (i := k) (j := 1) hX dX4_runOne_151 rfl rfl rfl ?_
    refine gx_iast (i := 4) hC (gM1 hM) rfl rfl rfl rfl (by omega) rfl dX4_runOne_152 rfl ?_
    exact gx_vret hC dX4_runOne_153 (⟨(((((((he.put (gM1 hM) (by decide)).put (gM1 hM) (by decide)).put (gM1 hM) (by decide)).put (gM1 hM) (by decide)).put (gM1 hM) (by decide)).put (gM1 hM) (by decide))), by rw [qrun_eq hk h4]; exact hr5.now (by omega)⟩)
  refine gx_aload_n hX 0 dX4_runOne_0 rfl rfl ?_
  refine gx_iload_n hX 1 dX4_runOne_1 rfl rfl ?_
  refine gx_callV (As := [.int (nI i)]) (st := []) hC (c_X4_compute l Y mo σ r n hM hr i hi hsl hsr) kX4_compute wm_RX4_96 rfl (gM0 hM) rfl rfl rfl rfl rfl dX4_runOne_2 rfl (gx_ki fun r2 τ2 hq2 => ?_)
  obtain ⟨rfl, rfl⟩ := hq2
  refine gx_istore_n (lv' := [(2, .int (qcmp (qg r n) r i)), (0, .ref mo), (1, .int (nI i))]) hX dX4_runOne_5 rfl (by decide) rfl ?_
  refine gx_aload_n hX 1 dX4_runOne_6 rfl rfl ?_
  refine gx_iload_n hX 2 dX4_runOne_7 rfl rfl ?_
  refine gx_iconst (v := 5) hX dX4_runOne_8 rfl (by decide) ?_
  refine gx_callV (As := [.int (nI i), .int 5]) (st := []) hC (c_X4_get l Y mo σ r i 5 hM hr.1 (by omega)) kX4_get wm_RX4_50 rfl (gM0 hM) rfl rfl rfl rfl rfl dX4_runOne_9 rfl (gx_ki fun r9 τ9 hq9 => ?_)
  obtain ⟨rfl, rfl⟩ := hq9
  refine gx_if_eq (tgt := 25) hX dX4_runOne_12 (by decide) rfl (fun h12 => ?_) (fun h12 => ?_)
  · refine gx_aload_n hX 1 dX4_runOne_25 rfl rfl ?_
    refine gx_get hC 0 inlX4 wf_RX4_7 rfl (gM0 hM) rfl rfl rfl rfl dX4_runOne_26 rfl ?_
    refine gx_iconst (v := 2) hX dX4_runOne_29 rfl (by decide) ?_
    refine gx_dup2 hX dX4_runOne_30 rfl rfl rfl ?_
    refine gx_iald (i := 2) hC (gM1 hM) rfl rfl (by omega) rfl dX4_runOne_31 rfl ?_
    refine gx_topi (b := (r 2)) (by rw [hq1]) ?_
    refine gx_iconst (v := 1) hX dX4_runOne_32 rfl (by decide) ?_
    refine gx_iadd hX dX4_runOne_33 rfl ?_
    refine gx_iast (i := 2) hC (gM1 hM) rfl rfl rfl rfl (by omega) rfl dX4_runOne_34 rfl ?_
    refine gx_aload_n hX 1 dX4_runOne_35 rfl rfl ?_
    refine gx_get hC 0 inlX4 wf_RX4_7 rfl (gM0 hM) rfl rfl rfl rfl dX4_runOne_36 rfl ?_
    refine gx_iload_n hX 2 dX4_runOne_39 rfl rfl ?_
    refine gx_iconst (v := 4) hX dX4_runOne_40 rfl (by decide) ?_
    refine gx_callS (As := [.int (nI i), .int 4]) (st := [.ref (gF Y mo 0)]) hC (c_X4_at l Y (uI σ (gF Y mo 0) 2 ((r 2) + 1)) i 4) kX4_at wm_RX4_38 rfl rfl rfl rfl dX4_runOne_41 rfl (gx_ki fun r41 τ41 hq41 => ?_)
    obtain ⟨rfl, rfl⟩ := hq41
    refine gx_iload_n hX 0 dX4_runOne_44 rfl rfl ?_
    refine gx_iast (i := 17 + 10 * i + 4) hC (gM1 hM) rfl rfl rfl rfl (by omega) rfl dX4_runOne_45 rfl ?_
    refine gx_aload_n hX 1 dX4_runOne_46 rfl rfl ?_
    refine gx_get hC 0 inlX4 wf_RX4_7 rfl (gM0 hM) rfl rfl rfl rfl dX4_runOne_47 rfl ?_
    refine gx_iload_n hX 2 dX4_runOne_50 rfl rfl ?_
    refine gx_iconst (v := 5) hX dX4_runOne_51 rfl (by decide) ?_
    refine gx_callS (As := [.int (nI i), .int 5]) (st := [.ref (gF Y mo 0)]) hC (c_X4_at l Y (uI (uI σ (gF Y mo 0) 2 ((r 2) + 1)) (gF Y mo 0) (17 + 10 * i + 4) (qcmp (qg r n) r i)) i 5) kX4_at wm_RX4_38 rfl rfl rfl rfl dX4_runOne_52 rfl (gx_ki fun r52 τ52 hq52 => ?_)
    obtain ⟨rfl, rfl⟩ := hq52
    refine gx_aload_n hX 1 dX4_runOne_55 rfl rfl ?_
    refine gx_get hC 0 inlX4 wf_RX4_7 rfl (gM0 hM) rfl rfl rfl rfl dX4_runOne_56 rfl ?_
    refine gx_iconst (v := 2) hX dX4_runOne_59 rfl (by decide) ?_
    refine gx_iald (i := 2) hC (gM1 hM) rfl rfl (by omega) rfl dX4_runOne_60 rfl ?_
    refine gx_topi (b := (r 2 + 1)) (by simp [uI]) ?_
    refine gx_iast (i := 17 + 10 * i + 5) hC (gM1 hM) rfl rfl rfl rfl (by omega) rfl dX4_runOne_61 rfl ?_
    have e62 : qr1 (qg r n) r i = qup (qup (qup r 2 (r 2 + 1)) (17 + 10 * i + 4) (qcmp (qg r n) r i)) (17 + 10 * i + 5) (r 2 + 1) := by unfold qr1; rw [if_pos (by first | exact Or.inl h12 | exact Or.inr h22)]
    exact gx_sub [1, 2] rfl (J62 _ (((gEq.rf.put (gM1 hM) (by decide)).put (gM1 hM) (by decide)).put (gM1 hM) (by decide)) (by rw [e62]; exact ((hr.now (by omega)).now (by omega)).now (by omega)))
  · refine gx_aload_n hX 1 dX4_runOne_15 rfl rfl ?_
    refine gx_iload_n hX 2 dX4_runOne_16 rfl rfl ?_
    refine gx_iconst (v := 4) hX dX4_runOne_17 rfl (by decide) ?_
    refine gx_callV (As := [.int (nI i), .int 4]) (st := []) hC (c_X4_get l Y mo σ r i 4 hM hr.1 (by omega)) kX4_get wm_RX4_50 rfl (gM0 hM) rfl rfl rfl rfl rfl dX4_runOne_18 rfl (gx_ki fun r18 τ18 hq18 => ?_)
    obtain ⟨rfl, rfl⟩ := hq18
    refine gx_iload_n hX 0 dX4_runOne_21 rfl rfl ?_
    refine gx_icmp_eq (tgt := 62) hX dX4_runOne_22 (by decide) rfl (fun h22 => ?_) (fun h22 => ?_)
    · have e62 : qr1 (qg r n) r i = r := by unfold qr1; rw [if_neg (by rintro (q | q); exact h12 q; exact q h22)]
      exact gx_sub [1, 2] rfl (J62 _ gEq.rf (by rw [e62]; exact hr))
    · refine gx_aload_n hX 1 dX4_runOne_25 rfl rfl ?_
      refine gx_get hC 0 inlX4 wf_RX4_7 rfl (gM0 hM) rfl rfl rfl rfl dX4_runOne_26 rfl ?_
      refine gx_iconst (v := 2) hX dX4_runOne_29 rfl (by decide) ?_
      refine gx_dup2 hX dX4_runOne_30 rfl rfl rfl ?_
      refine gx_iald (i := 2) hC (gM1 hM) rfl rfl (by omega) rfl dX4_runOne_31 rfl ?_
      refine gx_topi (b := (r 2)) (by rw [hq1]) ?_
      refine gx_iconst (v := 1) hX dX4_runOne_32 rfl (by decide) ?_
      refine gx_iadd hX dX4_runOne_33 rfl ?_
      refine gx_iast (i := 2) hC (gM1 hM) rfl rfl rfl rfl (by omega) rfl dX4_runOne_34 rfl ?_
      refine gx_aload_n hX 1 dX4_runOne_35 rfl rfl ?_
      refine gx_get hC 0 inlX4 wf_RX4_7 rfl (gM0 hM) rfl rfl rfl rfl dX4_runOne_36 rfl ?_
      refine gx_iload_n hX 2 dX4_runOne_39 rfl rfl ?_
      refine gx_iconst (v := 4) hX dX4_runOne_40 rfl (by decide) ?_
      refine gx_callS (As := [.int (nI i), .int 4]) (st := [.ref (gF Y mo 0)]) hC (c_X4_at l Y (uI σ (gF Y mo 0) 2 ((r 2) + 1)) i 4) kX4_at wm_RX4_38 rfl rfl rfl rfl dX4_runOne_41 rfl (gx_ki fun r41 τ41 hq41 => ?_)
      obtain ⟨rfl, rfl⟩ := hq41
      refine gx_iload_n hX 0 dX4_runOne_44 rfl rfl ?_
      refine gx_iast (i := 17 + 10 * i + 4) hC (gM1 hM) rfl rfl rfl rfl (by omega) rfl dX4_runOne_45 rfl ?_
      refine gx_aload_n hX 1 dX4_runOne_46 rfl rfl ?_
      refine gx_get hC 0 inlX4 wf_RX4_7 rfl (gM0 hM) rfl rfl rfl rfl dX4_runOne_47 rfl ?_
      refine gx_iload_n hX 2 dX4_runOne_50 rfl rfl ?_
      refine gx_iconst (v := 5) hX dX4_runOne_51 rfl (by decide) ?_
      refine gx_callS (As := [.int (nI i), .int 5]) (st := [.ref (gF Y mo 0)]) hC (c_X4_at l Y (uI (uI σ (gF Y mo 0) 2 ((r 2) + 1)) (gF Y mo 0) (17 + 10 * i + 4) (qcmp (qg r n) r i)) i 5) kX4_at wm_RX4_38 rfl rfl rfl rfl dX4_runOne_52 rfl (gx_ki fun r52 τ52 hq52 => ?_)
      obtain ⟨rfl, rfl⟩ := hq52
      refine gx_aload_n hX 1 dX4_runOne_55 rfl rfl ?_
      refine gx_get hC 0 inlX4 wf_RX4_7 rfl (gM0 hM) rfl rfl rfl rfl dX4_runOne_56 rfl ?_
      refine gx_iconst (v := 2) hX dX4_runOne_59 rfl (by decide) ?_
      refine gx_iald (i := 2) hC (gM1 hM) rfl rfl (by omega) rfl dX4_runOne_60 rfl ?_
      refine gx_topi (b := (r 2 + 1)) (by simp [uI]) ?_
      refine gx_iast (i := 17 + 10 * i + 5) hC (gM1 hM) rfl rfl rfl rfl (by omega) rfl dX4_runOne_61 rfl ?_
      have e62 : qr1 (qg r n) r i = qup (qup (qup r 2 (r 2 + 1)) (17 + 10 * i + 4) (qcmp (qg r n) r i)) (17 + 10 * i + 5) (r 2 + 1) := by unfold qr1; rw [if_pos (by first | exact Or.inl h12 | exact Or.inr h22)]
      exact gx_sub [1, 2] rfl (J62 _ (((gEq.rf.put (gM1 hM) (by decide)).put (gM1 hM) (by decide)).put (gM1 hM) (by decide)) (by rw [e62]; exact ((hr.now (by omega)).now (by omega)).now (by omega)))

set_option maxRecDepth 100000 in
set_option maxHeartbeats 4000000 in
theorem c_X4_runThrough (l : Launch) (Y : gL) (mo : Nat) (σ : gS) (r : Nat → Int32) (n : Nat) (hM : gLM Y mo) (hr : gRow Y mo σ r n) (B : Nat) (set : Int32) (hB : B + 12 < 2 ^ 30) (hI : qRI r n B) (h4 : r 4 = 0) (hcl : qcl (qg r n) set) : gM l yX4_runThrough cX4_runThrough 4 none (gRm 7 156) Y [.ref mo, .int set] σ (gV fun τ => gEq Y [15, 16, 19, 20, 21, 22, 23] σ τ ∧ τ.1 mo 2 = σ.1 mo 2 ∧ gRow Y mo τ (qrt r n set) n) := by
  have hr1 := hr.1
  have hr2 := hr.2.1
  have hr3 := hr.2.2
  refine gM.of (by decide) rfl ?_
  intro p e s m args below meth c hC
  have hX := hC.1
  refine gx_aload_n hX 0 dX4_runThrough_0 rfl rfl ?_
  refine gx_callV (As := []) (st := []) hC (c_X4_derive l Y mo σ r n hM hr) kX4_derive wm_RX4_102 rfl (gM0 hM) rfl rfl rfl rfl rfl dX4_runThrough_1 rfl (gx_kv fun τ1 hq1 => ?_)
  have hrA : gRow Y mo τ1 r n := hr.eq hM hq1.1 (by decide)
  obtain ⟨hq1e, hq1s, hD1, hD2, hD3, hD4, hD5, hD6⟩ := hq1
  have hqn := qm_le (qg r n)
  have hqn2 : qn (qg r n) = n := rfl
  refine gx_iconst (v := 0) hX dX4_runThrough_4 rfl (by decide) ?_
  refine gx_istore_n (lv' := [(2, .int 0), (0, .ref mo), (1, .int set)]) hX dX4_runThrough_5 rfl (by decide) rfl ?_
  have L6 : ∀ (k6 : Nat) (k : Nat) (τ : gS), qm (qg r n) - k < k6 → (k ≤ qm (qg r n)) → (gEq Y [16, 23] τ1 τ) → (gRow Y mo τ (qwk (qg r n) set r k).1 n) → (∀ c, c < n → τ.1 (gF Y mo 9) c = 0 ∨ τ.1 (gF Y mo 9) c = 1) → (∀ j, j < k → τ.1 (gF Y mo 9) (qo (qg r n) j) = if (qwk (qg r n) set r k).2 (qo (qg r n) j) = true then 1 else 0) → gG p l e (gRm 7 156) s m args below meth c Y (gV fun τ => gEq Y [15, 16, 19, 20, 21, 22, 23] σ τ ∧ τ.1 mo 2 = σ.1 mo 2 ∧ gRow Y mo τ (qrt r n set) n) τ 6 [(0, .ref mo), (1, .int set), (2, .int (nI k))] [] := by
    intro k6
    induction k6 with
    | zero => intro k τ hk6; exact absurd hk6 (Nat.not_lt_zero _)
    | succ k6 ih6 =>
      intro k τ hk6 hk he hrow hfv hfr
      refine gx_iload_n hX 2 dX4_runThrough_6 rfl rfl ?_
      refine gx_aload_n hX 0 dX4_runThrough_7 rfl rfl ?_
      refine gx_get hC 8 inlX4 wf_RX4_70 rfl (gM0 hM) rfl rfl rfl rfl dX4_runThrough_8 rfl ?_
      refine gx_topi (b := (nI (qm (qg r n)))) (by rw [he.at (gM0 hM) (by decide)]; exact hD4) ?_
      refine gx_nat_ge (i := k) (j := qm (qg r n)) (tgt := 72) hX dX4_runThrough_11 (by decide) rfl rfl rfl (by omega) (by omega) (fun h11 => ?_) (fun h11 => ?_)
      · exact gx_vret hC dX4_runThrough_72 (⟨(hq1e.mono (by decide)).tr (he.mono (by decide)), by rw [he.at (gM0 hM) (by decide)]; exact hq1s, by rw [show k = qm (qg r n) by omega] at hrow; exact hrow⟩)
      · refine gx_aload_n hX 0 dX4_runThrough_14 rfl rfl ?_
        refine gx_get hC 7 inlX4 wf_RX4_28 rfl (gM0 hM) rfl rfl rfl rfl dX4_runThrough_15 rfl ?_
        refine gx_iload_n hX 2 dX4_runThrough_18 rfl rfl ?_
        refine gx_iald (i := k) hC (gM7 hM) rfl rfl (by omega) rfl dX4_runThrough_19 rfl ?_
        refine gx_topi (b := (nI (qo (qg r n) k))) (by rw [he.at (gM7 hM) (by decide)]; exact hD5 k h11) ?_
        have hok : qo (qg r n) k < n := qm_lt h11
        have hI2 := qwk_inv hr3 hB hI h4 hcl k hk
        have hsw := qsrc_row (g := qg r n) hr3 rfl hI2.1 hok (qo_w hok)
        have hfb : ∀ d, d < n → τ.1 (gF Y mo 9) d = if (fun d => decide (τ.1 (gF Y mo 9) d = 1)) d = true then 1 else 0 := fun d hd => q01_fr (hfv d hd)
        have hqa := qfn_arr (F := τ.1 (gF Y mo 9)) (r := (qwk (qg r n) set r k).1) (fk := (qwk (qg r n) set r k).2) (k := k) (g := qg r n) hr3 rfl hI2.1 hok hfr
        refine gx_istore_n (lv' := [(3, .int (nI (qo (qg r n) k))), (0, .ref mo), (1, .int set), (2, .int (nI k))]) hX dX4_runThrough_20 rfl (by decide) rfl ?_
        refine gx_aload_n hX 1 dX4_runThrough_21 rfl rfl ?_
        refine gx_get hC 9 inlX4 wf_RX4_31 rfl (gM0 hM) rfl rfl rfl rfl dX4_runThrough_22 rfl ?_
        refine gx_iload_n hX 0 dX4_runThrough_25 rfl rfl ?_
        refine gx_aload_n hX 1 dX4_runThrough_26 rfl rfl ?_
        refine gx_iload_n hX 0 dX4_runThrough_27 rfl rfl ?_
        refine gx_callV (As := [.int (nI (qo (qg r n) k))]) (st := [.int (nI (qo (qg r n) k)), .ref (gF Y mo 9)]) hC (c_X4_isFreshNow l Y mo τ (qwk (qg r n) set r k).1 n hM hrow (fun d => decide (τ.1 (gF Y mo 9) d = 1)) hfb (qo (qg r n) k) hok (by rw [hI2.1]; exact hsw.1) (by rw [hI2.1]; exact hsw.2)) kX4_isFreshNow wm_RX4_86 rfl (gM0 hM) rfl rfl rfl rfl rfl dX4_runThrough_28 rfl (gx_ki fun r28 τ28 hq28 => ?_)
        obtain ⟨rfl, ⟨rfl, hb28⟩ | ⟨rfl, hb28⟩⟩ := hq28
        · have hb28t : qfn (qg r n) (qwk (qg r n) set r k).1 (qwk (qg r n) set r k).2 (qo (qg r n) k) = true := by rw [hI2.1, hqa] at hb28; exact hb28
          refine gx_zast (i := qo (qg r n) k) hC (gM9 hM) rfl rfl rfl rfl rfl (by omega) rfl dX4_runThrough_31 rfl ?_
          refine gx_iload_n hX 2 dX4_runThrough_32 rfl rfl ?_
          refine gx_iload_n hX 0 dX4_runThrough_33 rfl rfl ?_
          refine gx_ishr hX dX4_runThrough_34 rfl ?_
          refine gx_iconst (v := 1) hX dX4_runThrough_35 rfl (by decide) ?_
          refine gx_iand hX dX4_runThrough_36 rfl ?_
          refine gx_iconst (v := 1) hX dX4_runThrough_37 rfl (by decide) ?_
          refine gx_icmp_ne (tgt := 66) hX dX4_runThrough_38 (by decide) rfl (fun h38 => ?_) (fun h38 => ?_)
          · refine gx_iinc (w := (nI (k + 1))) (lv' := [(2, .int (nI (k + 1))), (3, .int (nI (qo (qg r n) k))), (0, .ref mo), (1, .int set)]) hX 3 dX4_runThrough_66 rfl rfl (nI_add _ _) (by decide) rfl ?_
            refine gx_goto (pc' := 6) hX dX4_runThrough_69 (by decide) ?_
            have hw1 := qwk_f (set := set) hb28t
            exact gx_sub [2, 3, 0] rfl (ih6 (k + 1) _ (by omega) (by omega) (he.put (gM9 hM) (by decide)) (by rw [hw1]; exact hrow.put (gM9 hM) (by decide) hM) (uI_01 hfv (by decide)) (fun j hj => by rw [hw1]; exact uI_qubp (b := true) (fun hne => hfr j (by rcases Nat.lt_or_ge j k with q | q; exact q; exact absurd (by rw [show j = k by omega]) hne)) rfl))
          · refine gx_aload_n hX 1 dX4_runThrough_41 rfl rfl ?_
            refine gx_get hC 9 inlX4 wf_RX4_31 rfl (gM0 hM) rfl rfl rfl rfl dX4_runThrough_42 rfl ?_
            refine gx_iload_n hX 0 dX4_runThrough_45 rfl rfl ?_
            refine gx_zald (i := qo (qg r n) k) hC (gM9 hM) rfl rfl (by omega) rfl dX4_runThrough_46 rfl ?_
            refine gx_topi (b := 1) (by simp [uI]) ?_
            refine gx_if_ne_t (tgt := 66) hX dX4_runThrough_47 (by decide) (by decide) ?_
            refine gx_iinc (w := (nI (k + 1))) (lv' := [(2, .int (nI (k + 1))), (3, .int (nI (qo (qg r n) k))), (0, .ref mo), (1, .int set)]) hX 3 dX4_runThrough_66 rfl rfl (nI_add _ _) (by decide) rfl ?_
            refine gx_goto (pc' := 6) hX dX4_runThrough_69 (by decide) ?_
            have hw1 := qwk_f (set := set) hb28t
            exact gx_sub [2, 3, 0] rfl (ih6 (k + 1) _ (by omega) (by omega) (he.put (gM9 hM) (by decide)) (by rw [hw1]; exact hrow.put (gM9 hM) (by decide) hM) (uI_01 hfv (by decide)) (fun j hj => by rw [hw1]; exact uI_qubp (b := true) (fun hne => hfr j (by rcases Nat.lt_or_ge j k with q | q; exact q; exact absurd (by rw [show j = k by omega]) hne)) rfl))
        · have hb28t : ¬ qfn (qg r n) (qwk (qg r n) set r k).1 (qwk (qg r n) set r k).2 (qo (qg r n) k) = true := by rw [hI2.1, hqa] at hb28; exact hb28
          refine gx_zast (i := qo (qg r n) k) hC (gM9 hM) rfl rfl rfl rfl rfl (by omega) rfl dX4_runThrough_31 rfl ?_
          refine gx_iload_n hX 2 dX4_runThrough_32 rfl rfl ?_
          refine gx_iload_n hX 0 dX4_runThrough_33 rfl rfl ?_
          refine gx_ishr hX dX4_runThrough_34 rfl ?_
          refine gx_iconst (v := 1) hX dX4_runThrough_35 rfl (by decide) ?_
          refine gx_iand hX dX4_runThrough_36 rfl ?_
          refine gx_iconst (v := 1) hX dX4_runThrough_37 rfl (by decide) ?_
          refine gx_icmp_ne (tgt := 66) hX dX4_runThrough_38 (by decide) rfl (fun h38 => ?_) (fun h38 => ?_)
          · refine gx_iinc (w := (nI (k + 1))) (lv' := [(2, .int (nI (k + 1))), (3, .int (nI (qo (qg r n) k))), (0, .ref mo), (1, .int set)]) hX 3 dX4_runThrough_66 rfl rfl (nI_add _ _) (by decide) rfl ?_
            refine gx_goto (pc' := 6) hX dX4_runThrough_69 (by decide) ?_
            have hw1 := qwk_n (set := set) hb28t (fun q => h38 (qt_iff.mpr q))
            exact gx_sub [2, 3, 0] rfl (ih6 (k + 1) _ (by omega) (by omega) (he.put (gM9 hM) (by decide)) (by rw [hw1]; exact hrow.put (gM9 hM) (by decide) hM) (uI_01 hfv (by decide)) (fun j hj => by rw [hw1]; exact uI_qubp (b := false) (fun hne => hfr j (by rcases Nat.lt_or_ge j k with q | q; exact q; exact absurd (by rw [show j = k by omega]) hne)) rfl))
          · refine gx_aload_n hX 1 dX4_runThrough_41 rfl rfl ?_
            refine gx_get hC 9 inlX4 wf_RX4_31 rfl (gM0 hM) rfl rfl rfl rfl dX4_runThrough_42 rfl ?_
            refine gx_iload_n hX 0 dX4_runThrough_45 rfl rfl ?_
            refine gx_zald (i := qo (qg r n) k) hC (gM9 hM) rfl rfl (by omega) rfl dX4_runThrough_46 rfl ?_
            refine gx_topi (b := 0) (by simp [uI]) ?_
            refine gx_if_ne_f (tgt := 66) hX dX4_runThrough_47 (by decide) rfl (by decide) ?_
            obtain ⟨j0, hj0, i6⟩ := hI2.2.2.2.2.2.1
            refine gx_aload_n hX 1 dX4_runThrough_50 rfl rfl ?_
            refine gx_iload_n hX 0 dX4_runThrough_51 rfl rfl ?_
            refine gx_callV (As := [.int (nI (qo (qg r n) k))]) (st := []) hC (c_X4_runOne l Y mo (uI τ (gF Y mo 9) (qo (qg r n) k) 0) (qwk (qg r n) set r k).1 n hM (hrow.put (gM9 hM) (by decide) hM) (qo (qg r n) k) j0 hok (by omega) i6 (by rw [hI2.1]; exact hsw.1) (by rw [hI2.1]; exact hsw.2)) kX4_runOne wm_RX4_105 rfl (gM0 hM) rfl rfl rfl rfl rfl dX4_runThrough_52 rfl (gx_kv fun τ52 hq52 => ?_)
            have hg2 : qg (qrun (qg (qwk (qg r n) set r k).1 n) (qwk (qg r n) set r k).1 (qo (qg r n) k)) n = qg r n := by rw [qg_run (k := j0) (by omega) i6]; exact hI2.1
            have hsw2 := qsrc_row (g := qg r n) hr3 rfl hg2 hok (qo_w hok)
            have he2 : gEq Y [16, 23] τ1 τ52 := (he.put (gM9 hM) (by decide)).tr (hq52.1.mono (by decide))
            have hfv2 : ∀ c, c < n → τ52.1 (gF Y mo 9) c = 0 ∨ τ52.1 (gF Y mo 9) c = 1 := by rw [hq52.1.at (gM9 hM) (by decide)]; exact uI_01 hfv (by decide)
            have hfc : ∀ d, d < n → τ52.1 (gF Y mo 9) d = if (fun d => decide (τ52.1 (gF Y mo 9) d = 1)) d = true then 1 else 0 := fun d hd => q01_fr (hfv2 d hd)
            have hqb := qfn_arr (F := τ52.1 (gF Y mo 9)) (r := qrun (qg (qwk (qg r n) set r k).1 n) (qwk (qg r n) set r k).1 (qo (qg r n) k)) (fk := (qwk (qg r n) set r k).2) (k := k) (g := qg r n) hr3 rfl hg2 hok (fun j hj => by rw [hq52.1.at (gM9 hM) (by decide), uI_off (qo_ne (g := qg r n) hr3 hj hok)]; exact hfr j hj)
            have hI3 := qwk_inv hr3 hB hI h4 hcl (k + 1) h11
            have hrn : qfn (qg r n) (qrun (qg (qwk (qg r n) set r k).1 n) (qwk (qg r n) set r k).1 (qo (qg r n) k)) (qwk (qg r n) set r k).2 (qo (qg r n) k) = true := qfn_after hr3 hB hI h4 hcl h11 hb28t (qt_iff.mp h38) hI2.1
            refine gx_aload_n hX 1 dX4_runThrough_55 rfl rfl ?_
            refine gx_get hC 9 inlX4 wf_RX4_31 rfl (gM0 hM) rfl rfl rfl rfl dX4_runThrough_56 rfl ?_
            refine gx_iload_n hX 0 dX4_runThrough_59 rfl rfl ?_
            refine gx_aload_n hX 1 dX4_runThrough_60 rfl rfl ?_
            refine gx_iload_n hX 0 dX4_runThrough_61 rfl rfl ?_
            refine gx_callV (As := [.int (nI (qo (qg r n) k))]) (st := [.int (nI (qo (qg r n) k)), .ref (gF Y mo 9)]) hC (c_X4_isFreshNow l Y mo τ52 (qrun (qg (qwk (qg r n) set r k).1 n) (qwk (qg r n) set r k).1 (qo (qg r n) k)) n hM hq52.2 (fun d => decide (τ52.1 (gF Y mo 9) d = 1)) hfc (qo (qg r n) k) hok (by rw [hg2]; exact hsw2.1) (by rw [hg2]; exact hsw2.2)) kX4_isFreshNow wm_RX4_86 rfl (gM0 hM) rfl rfl rfl rfl rfl dX4_runThrough_62 rfl (gx_ki fun r62 τ62 hq62 => ?_)
            obtain ⟨rfl, ⟨rfl, hb62⟩ | ⟨rfl, hb62⟩⟩ := hq62
            · refine gx_zast (i := qo (qg r n) k) hC (gM9 hM) rfl rfl rfl rfl rfl (by omega) rfl dX4_runThrough_65 rfl ?_
              refine gx_iinc (w := (nI (k + 1))) (lv' := [(2, .int (nI (k + 1))), (3, .int (nI (qo (qg r n) k))), (0, .ref mo), (1, .int set)]) hX 3 dX4_runThrough_66 rfl rfl (nI_add _ _) (by decide) rfl ?_
              refine gx_goto (pc' := 6) hX dX4_runThrough_69 (by decide) ?_
              have hw1 := qwk_r (set := set) hb28t (qt_iff.mp h38)
              exact gx_sub [2, 3, 0] rfl (ih6 (k + 1) _ (by omega) (by omega) (he2.put (gM9 hM) (by decide)) (by have hz := gRow.put (k := qo (qg r n) k) (v := 1) hq52.2 (gM9 hM) (by decide) hM; rw [hI2.1] at hz; rw [hw1]; exact hz) (uI_01 hfv2 (by decide)) (fun j hj => by rw [hw1]; exact uI_qubp (b := true) (fun hne => by rw [hq52.1.at (gM9 hM) (by decide), uI_off hne]; exact hfr j (by rcases Nat.lt_or_ge j k with q | q; exact q; exact absurd (by rw [show j = k by omega]) hne)) rfl))
            · exact absurd (by rw [hg2, hqb]; exact hrn) hb62
  exact gx_sub [1, 2, 0] rfl (L6 (qm (qg r n) + 1) 0 τ1 (by omega) (by omega) gEq.rf hrA (fun c hc => by rw [hD6 c hc]; split; exact Or.inr rfl; exact Or.inl rfl) (fun j hj => absurd hj (Nat.not_lt_zero j)))
