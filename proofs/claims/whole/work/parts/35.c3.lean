set_option maxRecDepth 100000 in
set_option maxHeartbeats 4000000 in
theorem c_X3_inputVersion (l : Launch) (Y : gL) (nb : Nat) (σ : gS) (g : qG) (hM : zLC Y nb) (hn : qn g ≤ 12) (hc : zCs Y σ.2.1 (gF Y nb 0)) (d1 : ∀ v, v < 10 → σ.1 (gF Y (gF Y nb 4) 1) v = zk (qonl (qdf g (nI v)))) (r : Nat → Int32) (hv : ∀ k, k < qn g → σ.1 (σ.2.1 (gF Y (gF Y nb 0) 0) k) 5 = r (17 + 10 * k + 5)) (y : Nat) (hy : y < 110) (hs : ¬ nI y < 100 → qsrc g (nI y) < 12) : gM l yX3_inputVersion cX3_inputVersion 3 (some .int) (gRm 2 41) Y [.ref nb, .int (nI y)] σ (gI fun z τ => σ = τ ∧ qvo g r (nI y) = z) := by
  refine gM.of (by decide) rfl ?_
  intro p e s m args below meth c hC
  have hX := hC.1
  refine gx_aload_n hX 0 dX3_inputVersion_0 rfl rfl ?_
  refine gx_get hC 4 inlX3 wf_RX3_31 rfl hM.1 rfl rfl rfl rfl dX3_inputVersion_1 rfl ?_
  refine gx_iload_n hX 1 dX3_inputVersion_4 rfl rfl ?_
  refine gx_callV (As := [.int (nI y)]) (st := []) hC (c_X1_soleDefinerOf l Y (gF Y nb 4) σ g hM.2.2.2.2.1 hn d1 y (by omega)) kX1_soleDefinerOf wm_RX3_219 rfl hM.2.2.2.2.1.1 rfl rfl rfl rfl rfl dX3_inputVersion_5 rfl (gx_ki fun r5 τ5 hq5 => ?_)
  obtain ⟨rfl, ⟨rfl, hb5⟩ | ⟨rfl, hb5⟩⟩ := hq5
  · refine gx_istore_n (lv' := [(2, .int (nI (qsrc g (nI y)))), (0, .ref nb), (1, .int (nI y))]) hX dX3_inputVersion_8 rfl (by decide) rfl ?_
    refine gx_iload_n hX 0 dX3_inputVersion_9 rfl rfl ?_
    refine gx_iconst (v := (-1)) hX dX3_inputVersion_10 rfl (by decide) ?_
    refine gx_icmp_ne_t (tgt := 18) hX dX3_inputVersion_11 (by decide) (fun q => nI_neg (by have := qsrc_le g (nI y); omega) (by decide) q) ?_
    refine gx_aload_n hX 1 dX3_inputVersion_18 rfl rfl ?_
    refine gx_get hC 0 inlX3 wf_RX3_12 rfl hM.1 rfl rfl rfl rfl dX3_inputVersion_19 rfl ?_
    refine gx_get hC 0 inlX2 wf_RX3_63 rfl hM.2.1 rfl rfl rfl rfl dX3_inputVersion_22 rfl ?_
    refine gx_iload_n hX 0 dX3_inputVersion_25 rfl rfl ?_
    have hsl := qsrc_lt hn hb5
    refine gx_aaldc (i := qsrc g (nI y)) hC ((hM.2.2.2.2.2 _ hM.2.1).1) rfl rfl (by omega) rfl dX3_inputVersion_26 rfl ?_
    refine gx_get hC 5 inlX0 wf_RX3_121 rfl ((hc (qsrc g (nI y)) (by omega)).1) rfl rfl rfl rfl dX3_inputVersion_27 rfl ?_
    exact gx_iret hC dX3_inputVersion_30 (⟨rfl, (zvo1 hb5).trans (hv _ hsl).symm⟩)
  · refine gx_istore_n (lv' := [(2, .int (-1)), (0, .ref nb), (1, .int (nI y))]) hX dX3_inputVersion_8 rfl (by decide) rfl ?_
    refine gx_iload_n hX 0 dX3_inputVersion_9 rfl rfl ?_
    refine gx_iconst (v := (-1)) hX dX3_inputVersion_10 rfl (by decide) ?_
    refine gx_icmp_ne_f (tgt := 18) hX dX3_inputVersion_11 (by decide) rfl (by decide) ?_
    refine gx_iconst (v := 0) hX dX3_inputVersion_14 rfl (by decide) ?_
    refine gx_goto (pc' := 30) hX dX3_inputVersion_15 (by decide) ?_
    exact gx_iret hC dX3_inputVersion_30 (⟨rfl, zvo0 hs hb5⟩)

set_option maxRecDepth 100000 in
set_option maxHeartbeats 4000000 in
theorem c_X3_inputResult (l : Launch) (Y : gL) (nb : Nat) (σ : gS) (g : qG) (hM : zLC Y nb) (hn : qn g ≤ 12) (hc : zCs Y σ.2.1 (gF Y nb 0)) (d1 : ∀ v, v < 10 → σ.1 (gF Y (gF Y nb 4) 1) v = zk (qonl (qdf g (nI v)))) (r : Nat → Int32) (y : Nat) (hy : y < 110) (hs : ¬ nI y < 100 → qsrc g (nI y) < 12) (hv : qsrc g (nI y) < 12 → σ.1 (σ.2.1 (gF Y (gF Y nb 0) 0) (qsrc g (nI y))) 4 = zenc (r (17 + 10 * qsrc g (nI y) + 4))) : gM l yX3_inputResult cX3_inputResult 3 (some .int) (gRm 2 41) Y [.ref nb, .int (nI y)] σ (gI fun z τ => σ = τ ∧ zop g r (nI y) = z) := by
  refine gM.of (by decide) rfl ?_
  intro p e s m args below meth c hC
  have hX := hC.1
  refine gx_aload_n hX 0 dX3_inputResult_0 rfl rfl ?_
  refine gx_get hC 4 inlX3 wf_RX3_31 rfl hM.1 rfl rfl rfl rfl dX3_inputResult_1 rfl ?_
  refine gx_iload_n hX 1 dX3_inputResult_4 rfl rfl ?_
  refine gx_callV (As := [.int (nI y)]) (st := []) hC (c_X1_soleDefinerOf l Y (gF Y nb 4) σ g hM.2.2.2.2.1 hn d1 y (by omega)) kX1_soleDefinerOf wm_RX3_219 rfl hM.2.2.2.2.1.1 rfl rfl rfl rfl rfl dX3_inputResult_5 rfl (gx_ki fun r5 τ5 hq5 => ?_)
  obtain ⟨rfl, ⟨rfl, hb5⟩ | ⟨rfl, hb5⟩⟩ := hq5
  · refine gx_istore_n (lv' := [(2, .int (nI (qsrc g (nI y)))), (0, .ref nb), (1, .int (nI y))]) hX dX3_inputResult_8 rfl (by decide) rfl ?_
    refine gx_iload_n hX 0 dX3_inputResult_9 rfl rfl ?_
    refine gx_iconst (v := (-1)) hX dX3_inputResult_10 rfl (by decide) ?_
    refine gx_icmp_ne_t (tgt := 18) hX dX3_inputResult_11 (by decide) (fun q => nI_neg (by have := qsrc_le g (nI y); omega) (by decide) q) ?_
    refine gx_aload_n hX 1 dX3_inputResult_18 rfl rfl ?_
    refine gx_get hC 0 inlX3 wf_RX3_12 rfl hM.1 rfl rfl rfl rfl dX3_inputResult_19 rfl ?_
    refine gx_get hC 0 inlX2 wf_RX3_63 rfl hM.2.1 rfl rfl rfl rfl dX3_inputResult_22 rfl ?_
    refine gx_iload_n hX 0 dX3_inputResult_25 rfl rfl ?_
    have hsl := qsrc_lt hn hb5
    refine gx_aaldc (i := qsrc g (nI y)) hC ((hM.2.2.2.2.2 _ hM.2.1).1) rfl rfl (by omega) rfl dX3_inputResult_26 rfl ?_
    refine gx_get hC 4 inlX0 wf_RX3_210 rfl ((hc (qsrc g (nI y)) (by omega)).1) rfl rfl rfl rfl dX3_inputResult_27 rfl ?_
    exact gx_iret hC dX3_inputResult_30 (⟨rfl, (zop1 hb5).trans (hv hb5).symm⟩)
  · refine gx_istore_n (lv' := [(2, .int (-1)), (0, .ref nb), (1, .int (nI y))]) hX dX3_inputResult_8 rfl (by decide) rfl ?_
    refine gx_iload_n hX 0 dX3_inputResult_9 rfl rfl ?_
    refine gx_iconst (v := (-1)) hX dX3_inputResult_10 rfl (by decide) ?_
    refine gx_icmp_ne_f (tgt := 18) hX dX3_inputResult_11 (by decide) rfl (by decide) ?_
    refine gx_iload_n hX 2 dX3_inputResult_14 rfl rfl ?_
    refine gx_goto (pc' := 30) hX dX3_inputResult_15 (by decide) ?_
    exact gx_iret hC dX3_inputResult_30 (⟨rfl, zop0 hs hb5⟩)

set_option maxRecDepth 100000 in
set_option maxHeartbeats 4000000 in
theorem c_X3_isErrorResult (l : Launch) (Y : gL) (σ : gS) (x : Int32) : gM l yX3_isErrorResult cX3_isErrorResult 1 (some .boolean) (gRm 0 0) Y [.int x] σ (gI fun z τ => σ = τ ∧ ((z = 1 ∧ (¬ x < 10000)) ∨ (z = 0 ∧ ¬ (¬ x < 10000)))) := by
  refine gM.of (by decide) rfl ?_
  intro p e s m args below meth c hC
  have hX := hC.1
  refine gx_iload_n hX 0 dX3_isErrorResult_0 rfl rfl ?_
  refine gx_sipush (v := 10000) hX dX3_isErrorResult_1 rfl (by decide) ?_
  refine gx_icmp_lt (tgt := 11) hX dX3_isErrorResult_4 (by decide) rfl (fun h4 => ?_) (fun h4 => ?_)
  · refine gx_iconst (v := 0) hX dX3_isErrorResult_11 rfl (by decide) ?_
    exact gx_zret hC rfl dX3_isErrorResult_12 (⟨rfl, Or.inr ⟨rfl, fun q => q h4⟩⟩)
  · refine gx_iconst (v := 1) hX dX3_isErrorResult_7 rfl (by decide) ?_
    refine gx_goto (pc' := 12) hX dX3_isErrorResult_8 (by decide) ?_
    exact gx_zret hC rfl dX3_isErrorResult_12 (⟨rfl, Or.inl ⟨rfl, h4⟩⟩)

set_option maxRecDepth 100000 in
set_option maxHeartbeats 4000000 in
theorem c_X3_limit (l : Launch) (Y : gL) (σ : gS) (x : Int32) : gM l yX3_limit cX3_limit 1 (some .int) (gRm 0 0) Y [.int x] σ (gI fun z τ => σ = τ ∧ zlim x = z) := by
  refine gM.of (by decide) rfl ?_
  intro p e s m args below meth c hC
  have hX := hC.1
  refine gx_iload_n hX 0 dX3_limit_0 rfl rfl ?_
  refine gx_sipush (v := (-9999)) hX dX3_limit_1 rfl (by decide) ?_
  refine gx_icmp_lt (tgt := 14) hX dX3_limit_4 (by decide) rfl (fun h4 => ?_) (fun h4 => ?_)
  · refine gx_sipush (v := 10006) hX dX3_limit_14 rfl (by decide) ?_
    refine gx_goto (pc' := 21) hX dX3_limit_17 (by decide) ?_
    exact gx_iret hC dX3_limit_21 (⟨rfl, zlim_c (by first | exact Or.inl ⟨h4, rfl⟩ | exact Or.inr (Or.inl ⟨h4, Int32.not_le.mp h11, rfl⟩) | exact Or.inr (Or.inr ⟨h4, Int32.not_lt.mpr h11, rfl⟩))⟩)
  · refine gx_iload_n hX 0 dX3_limit_7 rfl rfl ?_
    refine gx_sipush (v := 9999) hX dX3_limit_8 rfl (by decide) ?_
    refine gx_icmp_le (tgt := 20) hX dX3_limit_11 (by decide) rfl (fun h11 => ?_) (fun h11 => ?_)
    · refine gx_iload_n hX 0 dX3_limit_20 rfl rfl ?_
      exact gx_iret hC dX3_limit_21 (⟨rfl, zlim_c (by first | exact Or.inl ⟨h4, rfl⟩ | exact Or.inr (Or.inl ⟨h4, Int32.not_le.mp h11, rfl⟩) | exact Or.inr (Or.inr ⟨h4, Int32.not_lt.mpr h11, rfl⟩))⟩)
    · refine gx_sipush (v := 10006) hX dX3_limit_14 rfl (by decide) ?_
      refine gx_goto (pc' := 21) hX dX3_limit_17 (by decide) ?_
      exact gx_iret hC dX3_limit_21 (⟨rfl, zlim_c (by first | exact Or.inl ⟨h4, rfl⟩ | exact Or.inr (Or.inl ⟨h4, Int32.not_le.mp h11, rfl⟩) | exact Or.inr (Or.inr ⟨h4, Int32.not_lt.mpr h11, rfl⟩))⟩)

set_option maxRecDepth 100000 in
set_option maxHeartbeats 4000000 in
theorem c_X3_combine (l : Launch) (Y : gL) (σ : gS) (op a b : Int32) : gM l yX3_combine cX3_combine 3 (some .int) (gRm 1 21) Y [.int op, .int a, .int b] σ (gI fun z τ => σ = τ ∧ zcmb op a b = z) := by
  refine gM.of (by decide) rfl ?_
  intro p e s m args below meth c hC
  have hX := hC.1
  refine gx_iload_n hX 1 dX3_combine_0 rfl rfl ?_
  refine gx_callS (As := [.int a]) (st := []) hC (c_X3_isErrorResult l Y σ a) kX3_isErrorResult wm_RX3_222 rfl rfl rfl rfl dX3_combine_1 rfl (gx_ki fun r1 τ1 hq1 => ?_)
  obtain ⟨rfl, ⟨rfl, hb1⟩ | ⟨rfl, hb1⟩⟩ := hq1
  · refine gx_if_ne_t (tgt := 14) hX dX3_combine_4 (by decide) (by decide) ?_
    refine gx_sipush (v := 10005) hX dX3_combine_14 rfl (by decide) ?_
    exact gx_iret hC dX3_combine_17 (⟨rfl, zcmb_e op (by first | exact Or.inl hb1 | exact Or.inr hb8)⟩)
  · refine gx_if_ne_f (tgt := 14) hX dX3_combine_4 (by decide) rfl (by decide) ?_
    refine gx_iload_n hX 2 dX3_combine_7 rfl rfl ?_
    refine gx_callS (As := [.int b]) (st := []) hC (c_X3_isErrorResult l Y σ b) kX3_isErrorResult wm_RX3_222 rfl rfl rfl rfl dX3_combine_8 rfl (gx_ki fun r8 τ8 hq8 => ?_)
    obtain ⟨rfl, ⟨rfl, hb8⟩ | ⟨rfl, hb8⟩⟩ := hq8
    · refine gx_if_eq_f (tgt := 18) hX dX3_combine_11 (by decide) rfl (by decide) ?_
      refine gx_sipush (v := 10005) hX dX3_combine_14 rfl (by decide) ?_
      exact gx_iret hC dX3_combine_17 (⟨rfl, zcmb_e op (by first | exact Or.inl hb1 | exact Or.inr hb8)⟩)
    · refine gx_if_eq_t (tgt := 18) hX dX3_combine_11 (by decide) (by decide) ?_
      refine gx_iload_n hX 0 dX3_combine_18 rfl rfl ?_
      by_cases t19_0 : op = 0
      · refine gx_tableIn (tgt := 52) hX dX3_combine_19 0 t19_0 (by decide) (by decide) rfl (by decide) ?_
        refine gx_iload_n hX 1 dX3_combine_52 rfl rfl ?_
        refine gx_iload_n hX 2 dX3_combine_53 rfl rfl ?_
        refine gx_iadd hX dX3_combine_54 rfl ?_
        refine gx_callS (As := [.int (a + b)]) (st := []) hC (c_X3_limit l Y σ ((a + b))) kX3_limit wm_RX3_225 rfl rfl rfl rfl dX3_combine_55 rfl (gx_ki fun r55 τ55 hq55 => ?_)
        obtain ⟨rfl, rfl⟩ := hq55
        exact gx_iret hC dX3_combine_58 (⟨rfl, zcmb_c hb1 hb8 (Or.inl ⟨t19_0, rfl⟩)⟩)
      by_cases t19_1 : op = 1
      · refine gx_tableIn (tgt := 59) hX dX3_combine_19 1 t19_1 (by decide) (by decide) rfl (by decide) ?_
        refine gx_iload_n hX 1 dX3_combine_59 rfl rfl ?_
        refine gx_iload_n hX 2 dX3_combine_60 rfl rfl ?_
        refine gx_isub hX dX3_combine_61 rfl ?_
        refine gx_callS (As := [.int (a - b)]) (st := []) hC (c_X3_limit l Y σ ((a - b))) kX3_limit wm_RX3_225 rfl rfl rfl rfl dX3_combine_62 rfl (gx_ki fun r62 τ62 hq62 => ?_)
        obtain ⟨rfl, rfl⟩ := hq62
        exact gx_iret hC dX3_combine_65 (⟨rfl, zcmb_c hb1 hb8 (Or.inr (Or.inl ⟨t19_1, rfl⟩))⟩)
      by_cases t19_2 : op = 2
      · refine gx_tableIn (tgt := 66) hX dX3_combine_19 2 t19_2 (by decide) (by decide) rfl (by decide) ?_
        refine gx_iload_n hX 1 dX3_combine_66 rfl rfl ?_
        refine gx_iload_n hX 2 dX3_combine_67 rfl rfl ?_
        refine gx_imul hX dX3_combine_68 rfl ?_
        refine gx_callS (As := [.int (a * b)]) (st := []) hC (c_X3_limit l Y σ ((a * b))) kX3_limit wm_RX3_225 rfl rfl rfl rfl dX3_combine_69 rfl (gx_ki fun r69 τ69 hq69 => ?_)
        obtain ⟨rfl, rfl⟩ := hq69
        exact gx_iret hC dX3_combine_72 (⟨rfl, zcmb_c hb1 hb8 (Or.inr (Or.inr (Or.inl ⟨t19_2, rfl⟩)))⟩)
      by_cases t19_3 : op = 3
      · refine gx_tableIn (tgt := 73) hX dX3_combine_19 3 t19_3 (by decide) (by decide) rfl (by decide) ?_
        refine gx_iload_n hX 2 dX3_combine_73 rfl rfl ?_
        refine gx_if_ne (tgt := 83) hX dX3_combine_74 (by decide) rfl (fun h74 => ?_) (fun h74 => ?_)
        · refine gx_iload_n hX 1 dX3_combine_83 rfl rfl ?_
          refine gx_iload_n hX 2 dX3_combine_84 rfl rfl ?_
          refine gx_idiv hX dX3_combine_85 rfl h74 ?_
          exact gx_iret hC dX3_combine_86 (⟨rfl, zcmb_c hb1 hb8 (Or.inr (Or.inr (Or.inr (Or.inl ⟨t19_3, by first | exact (if_pos h74).symm | exact (if_neg h74).symm⟩))))⟩)
        · refine gx_sipush (v := 10007) hX dX3_combine_77 rfl (by decide) ?_
          refine gx_goto (pc' := 86) hX dX3_combine_80 (by decide) ?_
          exact gx_iret hC dX3_combine_86 (⟨rfl, zcmb_c hb1 hb8 (Or.inr (Or.inr (Or.inr (Or.inl ⟨t19_3, by first | exact (if_pos h74).symm | exact (if_neg h74).symm⟩))))⟩)
      by_cases t19_4 : op = 4
      · refine gx_tableIn (tgt := 87) hX dX3_combine_19 4 t19_4 (by decide) (by decide) rfl (by decide) ?_
        refine gx_iload_n hX 1 dX3_combine_87 rfl rfl ?_
        refine gx_iload_n hX 2 dX3_combine_88 rfl rfl ?_
        refine gx_mmax hC wm_RX3_228 rfl dX3_combine_89 rfl ?_
        exact gx_iret hC dX3_combine_92 (⟨rfl, zcmb_c hb1 hb8 (Or.inr (Or.inr (Or.inr (Or.inr (Or.inl ⟨t19_4, rfl⟩)))))⟩)
      refine gx_tableOut (tgt := 93) hX dX3_combine_19 (qout4 t19_0 t19_1 t19_2 t19_3 t19_4) (by decide) ?_
      refine gx_iload_n hX 1 dX3_combine_93 rfl rfl ?_
      refine gx_iload_n hX 2 dX3_combine_94 rfl rfl ?_
      refine gx_mmin hC wm_RX3_232 rfl dX3_combine_95 rfl ?_
      exact gx_iret hC dX3_combine_98 (⟨rfl, zcmb_c hb1 hb8 (Or.inr (Or.inr (Or.inr (Or.inr (Or.inr ⟨t19_0, t19_1, t19_2, t19_3, t19_4, rfl⟩)))))⟩)

set_option maxRecDepth 100000 in
set_option maxHeartbeats 4000000 in
theorem c_X3_run (l : Launch) (Y : gL) (nb : Nat) (σ : gS) (g : qG) (hM : zLC Y nb) (hn : qn g ≤ 12) (hc : zCs Y σ.2.1 (gF Y nb 0)) (d1 : ∀ v, v < 10 → σ.1 (gF Y (gF Y nb 4) 1) v = zk (qonl (qdf g (nI v)))) (r : Nat → Int32) (hB : zB Y σ (gF Y nb 0) r (qn g)) (k : Nat) (hk : k < 12) (h4 : r 4 = nI k) (hL : zL Y σ (gF Y nb 0) r) (i : Nat) (hi : i < qn g) (hq : qCI r i) (hsl : zSo g r i (r (17 + 10 * i + 2))) (hsr : zSo g r i (r (17 + 10 * i + 3))) : gM l yX3_run cX3_run 4 none (gRm 3 63) Y [.ref nb, .int (nI i)] σ (gV fun τ => zN (zW Y (gF Y nb 0)) σ τ ∧ zB Y τ (gF Y nb 0) (qrun g r i) (qn g) ∧ zL Y τ (gF Y nb 0) (qrun g r i)) := by
  obtain ⟨-, ⟨x, hx, ex⟩, ⟨y, hy, ey⟩, hq5⟩ := hq
  rw [ex] at hsl
  rw [ey] at hsr
  have hci := hB.2.2.2.2.2.2 i hi
  have hS := hM.2.2.2.2.2
  have ht := hM.2.1
  have wi := hc.w (i := i) (by omega)
  have n1 : (σ.2.1 (gF Y (gF Y nb 0) 0) i) ≠ gF Y nb 0 := gK_ne (hc i (by omega)).1 ht (by decide)
  have hv0 : ∀ k, k < qn g → σ.1 (σ.2.1 (gF Y (gF Y nb 0) 0) k) 5 = r (17 + 10 * k + 5) := fun k hk => (hB.2.2.2.2.2.2 k hk).2.2.2.2.1
  have hrx : ∀ w : Int32, zSo g r i w → qsrc g w < 12 → (σ.2.1 (gF Y (gF Y nb 0) 0) (qsrc g w)) ≠ (σ.2.1 (gF Y (gF Y nb 0) 0) i) ∧ σ.1 (σ.2.1 (gF Y (gF Y nb 0) 0) (qsrc g w)) 4 = zenc (r (17 + 10 * qsrc g w + 4)) := fun w hw hl => ⟨fun z => (hw.at hl).1 ((hc _ hl).2.2 i (by omega) z), ((hB.2.2.2.2.2.2 _ (qsrc_lt hn hl)).2.2.2.2.2.2 (hw.at hl).2.1).1⟩
  have h6 : σ.1 (gF Y nb 0) 6 = nI k := by obtain ⟨k2, _, l2, l3, _⟩ := hL; rw [l3, ← l2, h4]
  refine gM.of (by decide) rfl ?_
  intro p e s m args below meth c hC
  have hX := hC.1
  refine gx_aload_n hX 0 dX3_run_0 rfl rfl ?_
  refine gx_get hC 0 inlX3 wf_RX3_12 rfl hM.1 rfl rfl rfl rfl dX3_run_1 rfl ?_
  refine gx_get hC 0 inlX2 wf_RX3_63 rfl hM.2.1 rfl rfl rfl rfl dX3_run_4 rfl ?_
  refine gx_iload_n hX 1 dX3_run_7 rfl rfl ?_
  refine gx_aaldc (i := i) hC ((hM.2.2.2.2.2 _ hM.2.1).1) rfl rfl (by omega) rfl dX3_run_8 rfl ?_
  refine gx_astore_n (lv' := [(2, .ref (σ.2.1 (gF Y (gF Y nb 0) 0) i)), (0, .ref nb), (1, .int (nI i))]) hX dX3_run_9 rfl (by decide) rfl ?_
  refine gx_aload_n hX 0 dX3_run_10 rfl rfl ?_
  refine gx_aload_n hX 1 dX3_run_11 rfl rfl ?_
  refine gx_aload_n hX 0 dX3_run_12 rfl rfl ?_
  refine gx_get hC 2 inlX0 wf_RX3_170 rfl ((hc i (by omega)).1) rfl rfl rfl rfl dX3_run_13 rfl ?_
  refine gx_topi (b := (nI x)) (hci.2.2.1.trans ex) ?_
  refine gx_callV (As := [.int (nI x)]) (st := [.ref (σ.2.1 (gF Y (gF Y nb 0) 0) i)]) hC (c_X3_inputVersion l Y nb σ g hM hn hc d1 r hv0 x (by omega) (fun q => (hsl q).1)) kX3_inputVersion wm_RX3_197 rfl hM.1 rfl rfl rfl rfl rfl dX3_run_16 rfl (gx_ki fun r16 τ16 hq16 => ?_)
  obtain ⟨rfl, rfl⟩ := hq16
  refine gx_put (τ := uI σ (σ.2.1 (gF Y (gF Y nb 0) 0) i) 6 (qvo g r (nI x))) hC 6 inlX0 tyX0_ok nmX0 wf_RX3_194 rfl ((hc i (by omega)).1) rfl rfl (by simp [gE, uI]) (fun b hb => gEnt_I hb) rfl rfl rfl rfl rfl rfl rfl dX3_run_19 rfl ?_
  refine gx_aload_n hX 0 dX3_run_22 rfl rfl ?_
  refine gx_aload_n hX 1 dX3_run_23 rfl rfl ?_
  refine gx_aload_n hX 0 dX3_run_24 rfl rfl ?_
  refine gx_get hC 3 inlX0 wf_RX3_173 rfl ((hc i (by omega)).1) rfl rfl rfl rfl dX3_run_25 rfl ?_
  refine gx_topi (b := (nI y)) ((uI_off (by decide)).trans (hci.2.2.2.1.trans ey)) ?_
  refine gx_callV (As := [.int (nI y)]) (st := [.ref (σ.2.1 (gF Y (gF Y nb 0) 0) i)]) hC (c_X3_inputVersion l Y nb (uI σ (σ.2.1 (gF Y (gF Y nb 0) 0) i) 6 (qvo g r (nI x))) g hM hn hc (zN.d1 (τ := (uI σ (σ.2.1 (gF Y (gF Y nb 0) 0) i) 6 (qvo g r (nI x)))) (zN.rf.put wi) hM d1) r (fun k hk => by simpa [uI] using hv0 k hk) y (by omega) (fun q => (hsr q).1)) kX3_inputVersion wm_RX3_197 rfl hM.1 rfl rfl rfl rfl rfl dX3_run_28 rfl (gx_ki fun r28 τ28 hq28 => ?_)
  obtain ⟨rfl, rfl⟩ := hq28
  refine gx_put (τ := uI (uI σ (σ.2.1 (gF Y (gF Y nb 0) 0) i) 6 (qvo g r (nI x))) (σ.2.1 (gF Y (gF Y nb 0) 0) i) 7 (qvo g r (nI y))) hC 7 inlX0 tyX0_ok nmX0 wf_RX3_200 rfl ((hc i (by omega)).1) rfl rfl (by simp [gE, uI]) (fun b hb => gEnt_I hb) rfl rfl rfl rfl rfl rfl rfl dX3_run_31 rfl ?_
  refine gx_aload_n hX 0 dX3_run_34 rfl rfl ?_
  refine gx_get hC 1 inlX0 wf_RX3_167 rfl ((hc i (by omega)).1) rfl rfl rfl rfl dX3_run_35 rfl ?_
  refine gx_topi (b := (r (17 + 10 * i + 1))) (by simp [uI]; exact hci.2.1) ?_
  refine gx_aload_n hX 1 dX3_run_38 rfl rfl ?_
  refine gx_aload_n hX 0 dX3_run_39 rfl rfl ?_
  refine gx_get hC 2 inlX0 wf_RX3_170 rfl ((hc i (by omega)).1) rfl rfl rfl rfl dX3_run_40 rfl ?_
  refine gx_topi (b := (nI x)) (by simp [uI]; exact hci.2.2.1.trans ex) ?_
  refine gx_callV (As := [.int (nI x)]) (st := [.int (r (17 + 10 * i + 1))]) hC (c_X3_inputResult l Y nb (uI (uI σ (σ.2.1 (gF Y (gF Y nb 0) 0) i) 6 (qvo g r (nI x))) (σ.2.1 (gF Y (gF Y nb 0) 0) i) 7 (qvo g r (nI y))) g hM hn hc (zN.d1 (τ := (uI (uI σ (σ.2.1 (gF Y (gF Y nb 0) 0) i) 6 (qvo g r (nI x))) (σ.2.1 (gF Y (gF Y nb 0) 0) i) 7 (qvo g r (nI y)))) ((zN.rf.put wi).put wi) hM d1) r x (by omega) (fun q => (hsl q).1) (fun q => by simpa [uI] using (hrx _ hsl q).2)) kX3_inputResult wm_RX3_203 rfl hM.1 rfl rfl rfl rfl rfl dX3_run_43 rfl (gx_ki fun r43 τ43 hq43 => ?_)
  obtain ⟨rfl, rfl⟩ := hq43
  refine gx_aload_n hX 1 dX3_run_46 rfl rfl ?_
  refine gx_aload_n hX 0 dX3_run_47 rfl rfl ?_
  refine gx_get hC 3 inlX0 wf_RX3_173 rfl ((hc i (by omega)).1) rfl rfl rfl rfl dX3_run_48 rfl ?_
  refine gx_topi (b := (nI y)) (by simp [uI]; exact hci.2.2.2.1.trans ey) ?_
  refine gx_callV (As := [.int (nI y)]) (st := [.int (zop g r (nI x)), .int (r (17 + 10 * i + 1))]) hC (c_X3_inputResult l Y nb (uI (uI σ (σ.2.1 (gF Y (gF Y nb 0) 0) i) 6 (qvo g r (nI x))) (σ.2.1 (gF Y (gF Y nb 0) 0) i) 7 (qvo g r (nI y))) g hM hn hc (zN.d1 (τ := (uI (uI σ (σ.2.1 (gF Y (gF Y nb 0) 0) i) 6 (qvo g r (nI x))) (σ.2.1 (gF Y (gF Y nb 0) 0) i) 7 (qvo g r (nI y)))) ((zN.rf.put wi).put wi) hM d1) r y (by omega) (fun q => (hsr q).1) (fun q => by simpa [uI] using (hrx _ hsr q).2)) kX3_inputResult wm_RX3_203 rfl hM.1 rfl rfl rfl rfl rfl dX3_run_51 rfl (gx_ki fun r51 τ51 hq51 => ?_)
  obtain ⟨rfl, rfl⟩ := hq51
  refine gx_callS (As := [.int (r (17 + 10 * i + 1)), .int (zop g r (nI x)), .int (zop g r (nI y))]) (st := []) hC (c_X3_combine l Y (uI (uI σ (σ.2.1 (gF Y (gF Y nb 0) 0) i) 6 (qvo g r (nI x))) (σ.2.1 (gF Y (gF Y nb 0) 0) i) 7 (qvo g r (nI y))) (r (17 + 10 * i + 1)) (zop g r (nI x)) (zop g r (nI y))) kX3_combine wm_RX3_206 rfl rfl rfl rfl dX3_run_54 rfl (gx_ki fun r54 τ54 hq54 => ?_)
  obtain ⟨rfl, rfl⟩ := hq54
  refine gx_topi (b := (zenc (qcmp g r i))) (zcmb_q hx hy ex ey (fun q => (hsl q).2.2.2) (fun q => (hsr q).2.2.2)) ?_
  refine gx_istore_n (lv' := [(3, .int (zenc (qcmp g r i))), (2, .ref (σ.2.1 (gF Y (gF Y nb 0) 0) i)), (0, .ref nb), (1, .int (nI i))]) hX dX3_run_57 rfl (by decide) rfl ?_
  have J102 : ∀ (f : Nat → Nat → Int32), (zR1 (gF Y nb 0) (σ.2.1 (gF Y (gF Y nb 0) 0) i) σ f g r i x y) → gG p l e (gRm 3 63) s m args below meth c Y (gV fun τ => zN (zW Y (gF Y nb 0)) σ τ ∧ zB Y τ (gF Y nb 0) (qrun g r i) (qn g) ∧ zL Y τ (gF Y nb 0) (qrun g r i)) (f, σ.2) 102 [(0, .ref nb), (1, .int (nI i)), (2, .ref (σ.2.1 (gF Y (gF Y nb 0) 0) i))] [] := by
    intro f hR1
    have h6f : (uI (f, σ.2) (σ.2.1 (gF Y (gF Y nb 0) 0) i) 8 (f (σ.2.1 (gF Y (gF Y nb 0) 0) i) 8 + 1)).1 (gF Y nb 0) 6 = nI k := by rw [uI_ne n1.symm]; exact (hR1.2.1 6 (by decide)).trans h6
    refine gx_aload_n hX 2 dX3_run_102 rfl rfl ?_
    refine gx_dup hX dX3_run_103 rfl rfl ?_
    refine gx_get hC 8 inlX0 wf_RX3_124 rfl ((hc i (by omega)).1) rfl rfl rfl rfl dX3_run_104 rfl ?_
    refine gx_iconst (v := 1) hX dX3_run_107 rfl (by decide) ?_
    refine gx_iadd hX dX3_run_108 rfl ?_
    refine gx_put (τ := uI (f, σ.2) (σ.2.1 (gF Y (gF Y nb 0) 0) i) 8 (((f, σ.2).1 (σ.2.1 (gF Y (gF Y nb 0) 0) i) 8) + 1)) hC 8 inlX0 tyX0_ok nmX0 wf_RX3_124 rfl ((hc i (by omega)).1) rfl rfl (by simp [gE, uI]) (fun b hb => gEnt_I hb) rfl rfl rfl rfl rfl rfl rfl dX3_run_109 rfl ?_
    refine gx_aload_n hX 0 dX3_run_112 rfl rfl ?_
    refine gx_get hC 0 inlX3 wf_RX3_12 rfl hM.1 rfl rfl rfl rfl dX3_run_113 rfl ?_
    refine gx_iload_n hX 1 dX3_run_116 rfl rfl ?_
    refine gx_callV (As := [.int (nI i)]) (st := []) hC (c_X2_recordRun l Y (gF Y nb 0) (uI (f, σ.2) (σ.2.1 (gF Y (gF Y nb 0) 0) i) 8 (((f, σ.2).1 (σ.2.1 (gF Y (gF Y nb 0) 0) i) 8) + 1)) hS ht hc i k hk h6f) kX2_recordRun wm_RX3_216 rfl hM.2.1 rfl rfl rfl rfl rfl dX3_run_117 rfl (gx_kv fun τ117 hq117 => ?_)
    obtain rfl := hq117
    exact gx_vret hC dX3_run_120 (hR1.fin hS ht hc hB hk h4 hL hi ex ey hsl hsr rfl)
  refine gx_aload_n hX 1 dX3_run_58 rfl rfl ?_
  refine gx_get hC 5 inlX0 wf_RX3_121 rfl ((hc i (by omega)).1) rfl rfl rfl rfl dX3_run_59 rfl ?_
  refine gx_topi (b := (r (17 + 10 * i + 5))) (by simp [uI]; exact hv0 i hi) ?_
  refine gx_if_eq (tgt := 73) hX dX3_run_62 (by decide) rfl (fun h62 => ?_) (fun h62 => ?_)
  · refine gx_aload_n hX 2 dX3_run_73 rfl rfl ?_
    refine gx_get hC 0 inlX3 wf_RX3_12 rfl hM.1 rfl rfl rfl rfl dX3_run_74 rfl ?_
    refine gx_dup hX dX3_run_77 rfl rfl ?_
    refine gx_get hC 4 inlX2 wf_RX3_213 rfl hM.2.1 rfl rfl rfl rfl dX3_run_78 rfl ?_
    refine gx_topi (b := (r 2)) (by simp [uI, n1.symm]; exact hB.2.2.2.2.2.1) ?_
    refine gx_iconst (v := 1) hX dX3_run_81 rfl (by decide) ?_
    refine gx_iadd hX dX3_run_82 rfl ?_
    refine gx_put (τ := uI (uI (uI σ (σ.2.1 (gF Y (gF Y nb 0) 0) i) 6 (qvo g r (nI x))) (σ.2.1 (gF Y (gF Y nb 0) 0) i) 7 (qvo g r (nI y))) (gF Y nb 0) 4 ((r 2) + 1)) hC 4 inlX2 tyX2_ok nmX2 wf_RX3_213 rfl hM.2.1 rfl rfl (by simp [gE, uI]) (fun b hb => gEnt_I hb) rfl rfl rfl rfl rfl rfl rfl dX3_run_83 rfl ?_
    refine gx_aload_n hX 1 dX3_run_86 rfl rfl ?_
    refine gx_aload_n hX 2 dX3_run_87 rfl rfl ?_
    refine gx_get hC 0 inlX3 wf_RX3_12 rfl hM.1 rfl rfl rfl rfl dX3_run_88 rfl ?_
    refine gx_get hC 4 inlX2 wf_RX3_213 rfl hM.2.1 rfl rfl rfl rfl dX3_run_91 rfl ?_
    refine gx_topi (b := (r 2 + 1)) uI_at ?_
    refine gx_put (τ := uI (uI (uI (uI σ (σ.2.1 (gF Y (gF Y nb 0) 0) i) 6 (qvo g r (nI x))) (σ.2.1 (gF Y (gF Y nb 0) 0) i) 7 (qvo g r (nI y))) (gF Y nb 0) 4 ((r 2) + 1)) (σ.2.1 (gF Y (gF Y nb 0) 0) i) 5 (r 2 + 1)) hC 5 inlX0 tyX0_ok nmX0 wf_RX3_121 rfl ((hc i (by omega)).1) rfl rfl (by simp [gE, uI]) (fun b hb => gEnt_I hb) rfl rfl rfl rfl rfl rfl rfl dX3_run_94 rfl ?_
    refine gx_aload_n hX 1 dX3_run_97 rfl rfl ?_
    refine gx_iload_n hX 0 dX3_run_98 rfl rfl ?_
    refine gx_put (τ := uI (uI (uI (uI (uI σ (σ.2.1 (gF Y (gF Y nb 0) 0) i) 6 (qvo g r (nI x))) (σ.2.1 (gF Y (gF Y nb 0) 0) i) 7 (qvo g r (nI y))) (gF Y nb 0) 4 ((r 2) + 1)) (σ.2.1 (gF Y (gF Y nb 0) 0) i) 5 (r 2 + 1)) (σ.2.1 (gF Y (gF Y nb 0) 0) i) 4 (zenc (qcmp g r i))) hC 4 inlX0 tyX0_ok nmX0 wf_RX3_210 rfl ((hc i (by omega)).1) rfl rfl (by simp [gE, uI]) (fun b hb => gEnt_I hb) rfl rfl rfl rfl rfl rfl rfl dX3_run_99 rfl ?_
    exact gx_sub [2, 3, 1] rfl (J102 (uI (uI (uI (uI (uI σ (σ.2.1 (gF Y (gF Y nb 0) 0) i) 6 (qvo g r (nI x))) (σ.2.1 (gF Y (gF Y nb 0) 0) i) 7 (qvo g r (nI y))) (gF Y nb 0) 4 ((r 2) + 1)) (σ.2.1 (gF Y (gF Y nb 0) 0) i) 5 (r 2 + 1)) (σ.2.1 (gF Y (gF Y nb 0) 0) i) 4 (zenc (qcmp g r i))).1 (by refine ⟨fun b hb1 hb2 => ?_, fun k hk => ?_, ?_, fun k h4 h5 h6 h7 => ?_, ?_, ?_, ?_, ?_⟩; simp [uI, hb1, hb2]; (simp [uI, hk, n1.symm]); (simp [uI, n1.symm]; exact (qr1_yes (by first | exact Or.inl h62 | exact Or.inr (fun z => h70 (by rw [z])))).1.symm); (simp [uI, n1, h4, h5, h6, h7]); (simp [uI, n1]; exact (qr1_yes (by first | exact Or.inl h62 | exact Or.inr (fun z => h70 (by rw [z])))).2.symm); (simp [uI, n1]); (simp [uI, n1]); (simp [uI, n1])))
  · refine gx_iload_n hX 0 dX3_run_65 rfl rfl ?_
    refine gx_aload_n hX 1 dX3_run_66 rfl rfl ?_
    refine gx_get hC 4 inlX0 wf_RX3_210 rfl ((hc i (by omega)).1) rfl rfl rfl rfl dX3_run_67 rfl ?_
    refine gx_topi (b := (zenc (r (17 + 10 * i + 4)))) (by simp [uI]; exact (hci.2.2.2.2.2.2 h62).1) ?_
    refine gx_icmp_eq (tgt := 102) hX dX3_run_70 (by decide) rfl (fun h70 => ?_) (fun h70 => ?_)
    · exact gx_sub [2, 3, 1] rfl (J102 (uI (uI σ (σ.2.1 (gF Y (gF Y nb 0) 0) i) 6 (qvo g r (nI x))) (σ.2.1 (gF Y (gF Y nb 0) 0) i) 7 (qvo g r (nI y))).1 (by refine ⟨fun b hb1 hb2 => ?_, fun k hk => ?_, ?_, fun k h4 h5 h6 h7 => ?_, ?_, ?_, ?_, ?_⟩; simp [uI, hb1, hb2]; (simp [uI, n1.symm]); (simp [uI, n1.symm]; rw [(qr1_no h62 h70 (hq5 h62).1).1]; exact hB.2.2.2.2.2.1); (simp [uI, n1, h4, h5, h6, h7]); (simp [uI, n1]; rw [(qr1_no h62 h70 (hq5 h62).1).2]; exact hv0 i hi); (simp [uI, n1]; rw [h70]; exact (hci.2.2.2.2.2.2 h62).1); (simp [uI, n1]); (simp [uI, n1])))
    · refine gx_aload_n hX 2 dX3_run_73 rfl rfl ?_
      refine gx_get hC 0 inlX3 wf_RX3_12 rfl hM.1 rfl rfl rfl rfl dX3_run_74 rfl ?_
      refine gx_dup hX dX3_run_77 rfl rfl ?_
      refine gx_get hC 4 inlX2 wf_RX3_213 rfl hM.2.1 rfl rfl rfl rfl dX3_run_78 rfl ?_
      refine gx_topi (b := (r 2)) (by simp [uI, n1.symm]; exact hB.2.2.2.2.2.1) ?_
      refine gx_iconst (v := 1) hX dX3_run_81 rfl (by decide) ?_
      refine gx_iadd hX dX3_run_82 rfl ?_
      refine gx_put (τ := uI (uI (uI σ (σ.2.1 (gF Y (gF Y nb 0) 0) i) 6 (qvo g r (nI x))) (σ.2.1 (gF Y (gF Y nb 0) 0) i) 7 (qvo g r (nI y))) (gF Y nb 0) 4 ((r 2) + 1)) hC 4 inlX2 tyX2_ok nmX2 wf_RX3_213 rfl hM.2.1 rfl rfl (by simp [gE, uI]) (fun b hb => gEnt_I hb) rfl rfl rfl rfl rfl rfl rfl dX3_run_83 rfl ?_
      refine gx_aload_n hX 1 dX3_run_86 rfl rfl ?_
      refine gx_aload_n hX 2 dX3_run_87 rfl rfl ?_
      refine gx_get hC 0 inlX3 wf_RX3_12 rfl hM.1 rfl rfl rfl rfl dX3_run_88 rfl ?_
      refine gx_get hC 4 inlX2 wf_RX3_213 rfl hM.2.1 rfl rfl rfl rfl dX3_run_91 rfl ?_
      refine gx_topi (b := (r 2 + 1)) uI_at ?_
      refine gx_put (τ := uI (uI (uI (uI σ (σ.2.1 (gF Y (gF Y nb 0) 0) i) 6 (qvo g r (nI x))) (σ.2.1 (gF Y (gF Y nb 0) 0) i) 7 (qvo g r (nI y))) (gF Y nb 0) 4 ((r 2) + 1)) (σ.2.1 (gF Y (gF Y nb 0) 0) i) 5 (r 2 + 1)) hC 5 inlX0 tyX0_ok nmX0 wf_RX3_121 rfl ((hc i (by omega)).1) rfl rfl (by simp [gE, uI]) (fun b hb => gEnt_I hb) rfl rfl rfl rfl rfl rfl rfl dX3_run_94 rfl ?_
      refine gx_aload_n hX 1 dX3_run_97 rfl rfl ?_
      refine gx_iload_n hX 0 dX3_run_98 rfl rfl ?_
      refine gx_put (τ := uI (uI (uI (uI (uI σ (σ.2.1 (gF Y (gF Y nb 0) 0) i) 6 (qvo g r (nI x))) (σ.2.1 (gF Y (gF Y nb 0) 0) i) 7 (qvo g r (nI y))) (gF Y nb 0) 4 ((r 2) + 1)) (σ.2.1 (gF Y (gF Y nb 0) 0) i) 5 (r 2 + 1)) (σ.2.1 (gF Y (gF Y nb 0) 0) i) 4 (zenc (qcmp g r i))) hC 4 inlX0 tyX0_ok nmX0 wf_RX3_210 rfl ((hc i (by omega)).1) rfl rfl (by simp [gE, uI]) (fun b hb => gEnt_I hb) rfl rfl rfl rfl rfl rfl rfl dX3_run_99 rfl ?_
      exact gx_sub [2, 3, 1] rfl (J102 (uI (uI (uI (uI (uI σ (σ.2.1 (gF Y (gF Y nb 0) 0) i) 6 (qvo g r (nI x))) (σ.2.1 (gF Y (gF Y nb 0) 0) i) 7 (qvo g r (nI y))) (gF Y nb 0) 4 ((r 2) + 1)) (σ.2.1 (gF Y (gF Y nb 0) 0) i) 5 (r 2 + 1)) (σ.2.1 (gF Y (gF Y nb 0) 0) i) 4 (zenc (qcmp g r i))).1 (by refine ⟨fun b hb1 hb2 => ?_, fun k hk => ?_, ?_, fun k h4 h5 h6 h7 => ?_, ?_, ?_, ?_, ?_⟩; simp [uI, hb1, hb2]; (simp [uI, hk, n1.symm]); (simp [uI, n1.symm]; exact (qr1_yes (by first | exact Or.inl h62 | exact Or.inr (fun z => h70 (by rw [z])))).1.symm); (simp [uI, n1, h4, h5, h6, h7]); (simp [uI, n1]; exact (qr1_yes (by first | exact Or.inl h62 | exact Or.inr (fun z => h70 (by rw [z])))).2.symm); (simp [uI, n1]); (simp [uI, n1]); (simp [uI, n1])))

set_option maxRecDepth 100000 in
set_option maxHeartbeats 4000000 in
theorem c_X3_isUpToDate (l : Launch) (Y : gL) (nb : Nat) (σ : gS) (g : qG) (hM : zLC Y nb) (hn : qn g ≤ 12) (hc : zCs Y σ.2.1 (gF Y nb 0)) (d1 : ∀ v, v < 10 → σ.1 (gF Y (gF Y nb 4) 1) v = zk (qonl (qdf g (nI v)))) (d2 : ∀ i, i < qn g → σ.1 (gF Y (gF Y nb 4) 2) i = qdir g i) (r : Nat → Int32) (hB : zB Y σ (gF Y nb 0) r (qn g)) (i : Nat) (hi : i < qn g) (hq : qCI r i) (hp : 0 < r (17 + 10 * i + 5) ↔ r (17 + 10 * i + 5) ≠ 0) (fk : Nat → Bool) (hM5 : zM (σ.1 nb 5) fk) (hLx : qL g i = r (17 + 10 * i + 2)) (hRx : qR g i = r (17 + 10 * i + 3)) (hsl : ¬ r (17 + 10 * i + 2) < 100 → qsrc g (r (17 + 10 * i + 2)) < 12) (hsr : ¬ r (17 + 10 * i + 3) < 100 → qsrc g (r (17 + 10 * i + 3)) < 12) : gM l yX3_isUpToDate cX3_isUpToDate 3 (some .boolean) (gRm 3 63) Y [.ref nb, .int (nI i)] σ (gI fun z τ => σ = τ ∧ ((z = 1 ∧ (qfn g r fk i = true)) ∨ (z = 0 ∧ ¬ (qfn g r fk i = true)))) := by
  have hq0 := hq
  obtain ⟨-, ⟨x, hx, ex⟩, ⟨y, hy, ey⟩, hq5⟩ := hq
  rw [ex] at hsl hLx
  rw [ey] at hsr hRx
  have hz := zfn hx hy ex ey hLx hRx hsl hsr hM5 hp hq0 hn
  have hci := hB.2.2.2.2.2.2 i hi
  have hv0 : ∀ k, k < qn g → σ.1 (σ.2.1 (gF Y (gF Y nb 0) 0) k) 5 = r (17 + 10 * k + 5) := fun k hk => (hB.2.2.2.2.2.2 k hk).2.2.2.2.1
  refine gM.of (by decide) rfl ?_
  intro p e s m args below meth c hC
  have hX := hC.1
  refine gx_aload_n hX 0 dX3_isUpToDate_0 rfl rfl ?_
  refine gx_get hC 0 inlX3 wf_RX3_12 rfl hM.1 rfl rfl rfl rfl dX3_isUpToDate_1 rfl ?_
  refine gx_get hC 0 inlX2 wf_RX3_63 rfl hM.2.1 rfl rfl rfl rfl dX3_isUpToDate_4 rfl ?_
  refine gx_iload_n hX 1 dX3_isUpToDate_7 rfl rfl ?_
  refine gx_aaldc (i := i) hC ((hM.2.2.2.2.2 _ hM.2.1).1) rfl rfl (by omega) rfl dX3_isUpToDate_8 rfl ?_
  refine gx_astore_n (lv' := [(2, .ref (σ.2.1 (gF Y (gF Y nb 0) 0) i)), (0, .ref nb), (1, .int (nI i))]) hX dX3_isUpToDate_9 rfl (by decide) rfl ?_
  refine gx_aload_n hX 0 dX3_isUpToDate_10 rfl rfl ?_
  refine gx_get hC 5 inlX0 wf_RX3_121 rfl ((hc i (by omega)).1) rfl rfl rfl rfl dX3_isUpToDate_11 rfl ?_
  refine gx_topi (b := (r (17 + 10 * i + 5))) hci.2.2.2.2.1 ?_
  refine gx_if_eq (tgt := 70) hX dX3_isUpToDate_14 (by decide) rfl (fun h14 => ?_) (fun h14 => ?_)
  · refine gx_iconst (v := 0) hX dX3_isUpToDate_70 rfl (by decide) ?_
    exact gx_zret hC rfl dX3_isUpToDate_71 (⟨rfl, Or.inr ⟨rfl, fun q => by have z := hz.mp q; first | exact z.1 h14 | exact h33 z.2.1 | exact h48 z.2.2.1 | exact h63 z.2.2.2⟩⟩)
  · refine gx_aload_n hX 1 dX3_isUpToDate_17 rfl rfl ?_
    refine gx_get hC 4 inlX3 wf_RX3_31 rfl hM.1 rfl rfl rfl rfl dX3_isUpToDate_18 rfl ?_
    refine gx_get hC 2 inlX1 wf_RX3_130 rfl hM.2.2.2.2.1.1 rfl rfl rfl rfl dX3_isUpToDate_21 rfl ?_
    refine gx_iload_n hX 2 dX3_isUpToDate_24 rfl rfl ?_
    refine gx_iald (i := i) hC hM.2.2.2.2.1.2.2.2.1 rfl rfl (by omega) rfl dX3_isUpToDate_25 rfl ?_
    refine gx_topi (b := (qdir g i)) (d2 i hi) ?_
    refine gx_aload_n hX 1 dX3_isUpToDate_26 rfl rfl ?_
    refine gx_get hC 5 inlX3 wf_RX3_35 rfl hM.1 rfl rfl rfl rfl dX3_isUpToDate_27 rfl ?_
    refine gx_iconst (v := (-1)) hX dX3_isUpToDate_30 rfl (by decide) ?_
    refine gx_ixor hX dX3_isUpToDate_31 rfl ?_
    refine gx_iand hX dX3_isUpToDate_32 rfl ?_
    refine gx_if_ne (tgt := 70) hX dX3_isUpToDate_33 (by decide) rfl (fun h33 => ?_) (fun h33 => ?_)
    · refine gx_iconst (v := 0) hX dX3_isUpToDate_70 rfl (by decide) ?_
      exact gx_zret hC rfl dX3_isUpToDate_71 (⟨rfl, Or.inr ⟨rfl, fun q => by have z := hz.mp q; first | exact z.1 h14 | exact h33 z.2.1 | exact h48 z.2.2.1 | exact h63 z.2.2.2⟩⟩)
    · refine gx_aload_n hX 0 dX3_isUpToDate_36 rfl rfl ?_
      refine gx_get hC 6 inlX0 wf_RX3_194 rfl ((hc i (by omega)).1) rfl rfl rfl rfl dX3_isUpToDate_37 rfl ?_
      refine gx_topi (b := (r (17 + 10 * i + 6))) ((hci.2.2.2.2.2.2 h14).2.1) ?_
      refine gx_aload_n hX 1 dX3_isUpToDate_40 rfl rfl ?_
      refine gx_aload_n hX 0 dX3_isUpToDate_41 rfl rfl ?_
      refine gx_get hC 2 inlX0 wf_RX3_170 rfl ((hc i (by omega)).1) rfl rfl rfl rfl dX3_isUpToDate_42 rfl ?_
      refine gx_topi (b := (nI x)) (hci.2.2.1.trans ex) ?_
      refine gx_callV (As := [.int (nI x)]) (st := [.int (r (17 + 10 * i + 6))]) hC (c_X3_inputVersion l Y nb σ g hM hn hc d1 r hv0 x (by omega) hsl) kX3_inputVersion wm_RX3_197 rfl hM.1 rfl rfl rfl rfl rfl dX3_isUpToDate_45 rfl (gx_ki fun r45 τ45 hq45 => ?_)
      obtain ⟨rfl, rfl⟩ := hq45
      refine gx_icmp_ne (tgt := 70) hX dX3_isUpToDate_48 (by decide) rfl (fun h48 => ?_) (fun h48 => ?_)
      · refine gx_iconst (v := 0) hX dX3_isUpToDate_70 rfl (by decide) ?_
        exact gx_zret hC rfl dX3_isUpToDate_71 (⟨rfl, Or.inr ⟨rfl, fun q => by have z := hz.mp q; first | exact z.1 h14 | exact h33 z.2.1 | exact h48 z.2.2.1 | exact h63 z.2.2.2⟩⟩)
      · refine gx_aload_n hX 0 dX3_isUpToDate_51 rfl rfl ?_
        refine gx_get hC 7 inlX0 wf_RX3_200 rfl ((hc i (by omega)).1) rfl rfl rfl rfl dX3_isUpToDate_52 rfl ?_
        refine gx_topi (b := (r (17 + 10 * i + 7))) ((hci.2.2.2.2.2.2 h14).2.2) ?_
        refine gx_aload_n hX 1 dX3_isUpToDate_55 rfl rfl ?_
        refine gx_aload_n hX 0 dX3_isUpToDate_56 rfl rfl ?_
        refine gx_get hC 3 inlX0 wf_RX3_173 rfl ((hc i (by omega)).1) rfl rfl rfl rfl dX3_isUpToDate_57 rfl ?_
        refine gx_topi (b := (nI y)) (hci.2.2.2.1.trans ey) ?_
        refine gx_callV (As := [.int (nI y)]) (st := [.int (r (17 + 10 * i + 7))]) hC (c_X3_inputVersion l Y nb σ g hM hn hc d1 r hv0 y (by omega) hsr) kX3_inputVersion wm_RX3_197 rfl hM.1 rfl rfl rfl rfl rfl dX3_isUpToDate_60 rfl (gx_ki fun r60 τ60 hq60 => ?_)
        obtain ⟨rfl, rfl⟩ := hq60
        refine gx_icmp_ne (tgt := 70) hX dX3_isUpToDate_63 (by decide) rfl (fun h63 => ?_) (fun h63 => ?_)
        · refine gx_iconst (v := 0) hX dX3_isUpToDate_70 rfl (by decide) ?_
          exact gx_zret hC rfl dX3_isUpToDate_71 (⟨rfl, Or.inr ⟨rfl, fun q => by have z := hz.mp q; first | exact z.1 h14 | exact h33 z.2.1 | exact h48 z.2.2.1 | exact h63 z.2.2.2⟩⟩)
        · refine gx_iconst (v := 1) hX dX3_isUpToDate_66 rfl (by decide) ?_
          refine gx_goto (pc' := 71) hX dX3_isUpToDate_67 (by decide) ?_
          exact gx_zret hC rfl dX3_isUpToDate_71 (⟨rfl, Or.inl ⟨rfl, hz.mpr ⟨h14, h33, h48, h63⟩⟩⟩)

set_option maxRecDepth 100000 in
set_option maxHeartbeats 4000000 in
theorem c_X3_walkRunOrder (l : Launch) (Y : gL) (nb : Nat) (σ : gS) (g : qG) (hM : zLC Y nb) (hn : qn g ≤ 12) (r0 : Nat → Int32) (hg0 : qg r0 (qn g) = g) (P : Nat → Nat → Int32) (q : Nat) (cn : Nat → Int32) (hH : zH Y nb σ P q cn) (hB : zB Y σ (gF Y nb 0) r0 (qn g)) (hL : zL Y σ (gF Y nb 0) r0) (hG : zG Y σ (gF Y nb 4) g) (set : Int32) (hW : zWk g r0 set) (hE : qg (qrt r0 (qn g) set) (qn g) = g ∧ qF g (qrt r0 (qn g) set) = (qwk g set r0 (qm g)).2) : gM l yX3_walkRunOrder cX3_walkRunOrder 5 none (gRm 4 86) Y [.ref nb, .int set] σ (gV fun τ => zA Y nb τ (qrt r0 (qn g) set, qn g, P, q, cn)) := by
  have hc := hH.1.1 _ hM.2.1
  have hm := qm_le g
  refine gM.of (by decide) rfl ?_
  intro p e s m args below meth c hC
  have hX := hC.1
  refine gx_aload_n hX 0 dX3_walkRunOrder_0 rfl rfl ?_
  refine gx_iconst (v := 0) hX dX3_walkRunOrder_1 rfl (by decide) ?_
  refine gx_put (τ := uI σ nb 5 0) hC 5 inlX3 tyX3_ok nmX3 wf_RX3_35 rfl hM.1 rfl rfl (by simp [gE, uI]) (fun b hb => gEnt_I hb) rfl rfl rfl rfl rfl rfl rfl dX3_walkRunOrder_2 rfl ?_
  refine gx_iconst (v := 0) hX dX3_walkRunOrder_5 rfl (by decide) ?_
  refine gx_istore_n (lv' := [(2, .int 0), (0, .ref nb), (1, .int set)]) hX dX3_walkRunOrder_6 rfl (by decide) rfl ?_
  have L7 : ∀ (k7 : Nat) (i : Nat) (f : Nat → Nat → Int32), qm g + 1 - i < k7 → (i ≤ qm g) → (zWI Y nb σ g r0 set i f) → gG p l e (gRm 4 86) s m args below meth c Y (gV fun τ => zA Y nb τ (qrt r0 (qn g) set, qn g, P, q, cn)) (f, σ.2) 7 [(0, .ref nb), (1, .int set), (2, .int (nI i))] [] := by
    intro k7
    induction k7 with
    | zero => intro i f hk7; exact absurd hk7 (Nat.not_lt_zero _)
    | succ k7 ih7 =>
      intro i f hk7 hi hI
      have dG := hI.G hM hG
      refine gx_iload_n hX 2 dX3_walkRunOrder_7 rfl rfl ?_
      refine gx_aload_n hX 0 dX3_walkRunOrder_8 rfl rfl ?_
      refine gx_get hC 4 inlX3 wf_RX3_31 rfl hM.1 rfl rfl rfl rfl dX3_walkRunOrder_9 rfl ?_
      refine gx_get hC 6 inlX1 wf_RX3_139 rfl hM.2.2.2.2.1.1 rfl rfl rfl rfl dX3_walkRunOrder_12 rfl ?_
      refine gx_topi (b := (nI (qm g))) dG.2.2.2.2.2.1 ?_
      refine gx_nat_ge (i := i) (j := qm g) (tgt := 79) hX dX3_walkRunOrder_15 (by decide) rfl rfl rfl (by omega) (by omega) (fun h15 => ?_) (fun h15 => ?_)
      · refine gx_vret hC dX3_walkRunOrder_79 ?_
        have hie : i = qm g := by omega
        subst hie
        exact hI.fin hM hg0 hH hG hE
      · refine gx_aload_n hX 0 dX3_walkRunOrder_18 rfl rfl ?_
        refine gx_get hC 4 inlX3 wf_RX3_31 rfl hM.1 rfl rfl rfl rfl dX3_walkRunOrder_19 rfl ?_
        refine gx_get hC 5 inlX1 wf_RX3_142 rfl hM.2.2.2.2.1.1 rfl rfl rfl rfl dX3_walkRunOrder_22 rfl ?_
        refine gx_iload_n hX 2 dX3_walkRunOrder_25 rfl rfl ?_
        obtain ⟨w1, w2, w3, w4, w5⟩ := hW i h15
        have hok := qm_lt h15
        have hi2 : qo g i < 12 := by omega
        refine gx_iald (i := i) hC hM.2.2.2.2.1.2.2.2.2.2.2 rfl rfl (by omega) rfl dX3_walkRunOrder_26 rfl ?_
        refine gx_topi (b := (nI (qo g i))) (dG.2.2.2.2.2.2 i h15) ?_
        refine gx_istore_n (lv' := [(3, .int (nI (qo g i))), (0, .ref nb), (1, .int set), (2, .int (nI i))]) hX dX3_walkRunOrder_27 rfl (by decide) rfl ?_
        refine gx_aload_n hX 1 dX3_walkRunOrder_28 rfl rfl ?_
        refine gx_iload_n hX 0 dX3_walkRunOrder_29 rfl rfl ?_
        refine gx_callV (As := [.int (nI (qo g i))]) (st := []) hC (c_X3_isUpToDate l Y nb (f, σ.2) g hM hn hc dG.2.1 dG.2.2.1 (qwk g set r0 i).1 hI.2.2.1 (qo g i) hok w2 w3 (qwk g set r0 i).2 hI.2.2.2.2 (congrFun (congrArg (fun z : qG => z.2.1) w1) _).symm (congrFun (congrArg (fun z : qG => z.2.2.1) w1) _).symm (qsrc_row hn rfl w1 hok (qo_w hok)).1 (qsrc_row hn rfl w1 hok (qo_w hok)).2) kX3_isUpToDate wm_RX3_184 rfl hM.1 rfl rfl rfl rfl rfl dX3_walkRunOrder_30 rfl (gx_ki fun r30 τ30 hq30 => ?_)
        obtain ⟨rfl, ⟨rfl, hb30⟩ | ⟨rfl, hb30⟩⟩ := hq30
        · refine gx_istore (lv' := [(4, .int 1), (3, .int (nI (qo g i))), (0, .ref nb), (1, .int set), (2, .int (nI i))]) hX dX3_walkRunOrder_33 rfl (by decide) rfl ?_
          refine gx_iload hX 0 dX3_walkRunOrder_35 rfl rfl ?_
          refine gx_if_ne_t (tgt := 56) hX dX3_walkRunOrder_37 (by decide) (by decide) ?_
          refine gx_iload hX 0 dX3_walkRunOrder_56 rfl rfl ?_
          refine gx_if_eq_f (tgt := 73) hX dX3_walkRunOrder_58 (by decide) rfl (by decide) ?_
          refine gx_aload_n hX 2 dX3_walkRunOrder_61 rfl rfl ?_
          refine gx_dup hX dX3_walkRunOrder_62 rfl rfl ?_
          refine gx_get hC 5 inlX3 wf_RX3_35 rfl hM.1 rfl rfl rfl rfl dX3_walkRunOrder_63 rfl ?_
          refine gx_iconst (v := 1) hX dX3_walkRunOrder_66 rfl (by decide) ?_
          refine gx_iload_n hX 1 dX3_walkRunOrder_67 rfl rfl ?_
          refine gx_ishl hX dX3_walkRunOrder_68 rfl ?_
          refine gx_ior hX dX3_walkRunOrder_69 rfl ?_
          refine gx_put (τ := uI (f, σ.2) nb 5 (((f, σ.2).1 nb 5) ||| (1 <<< ((nI (qo g i)) &&& 31)))) hC 5 inlX3 tyX3_ok nmX3 wf_RX3_35 rfl hM.1 rfl rfl (by simp [gE, uI]) (fun b hb => gEnt_I hb) rfl rfl rfl rfl rfl rfl rfl dX3_walkRunOrder_70 rfl ?_
          refine gx_iinc (w := (nI (i + 1))) (lv' := [(2, .int (nI (i + 1))), (4, .int 1), (3, .int (nI (qo g i))), (0, .ref nb), (1, .int set)]) hX 4 dX3_walkRunOrder_73 rfl rfl (nI_add _ _) (by decide) rfl ?_
          refine gx_goto (pc' := 7) hX dX3_walkRunOrder_76 (by decide) ?_
          exact gx_sub [3, 4, 0] rfl (ih7 (i + 1) (uI (f, σ.2) nb 5 (((f, σ.2).1 nb 5) ||| (1 <<< ((nI (qo g i)) &&& 31)))).1 (by omega) (by omega) (hI.a hM hc hi2 hb30))
        · refine gx_istore (lv' := [(4, .int 0), (3, .int (nI (qo g i))), (0, .ref nb), (1, .int set), (2, .int (nI i))]) hX dX3_walkRunOrder_33 rfl (by decide) rfl ?_
          refine gx_iload hX 0 dX3_walkRunOrder_35 rfl rfl ?_
          refine gx_if_ne_f (tgt := 56) hX dX3_walkRunOrder_37 (by decide) rfl (by decide) ?_
          refine gx_iload_n hX 3 dX3_walkRunOrder_40 rfl rfl ?_
          refine gx_iload_n hX 1 dX3_walkRunOrder_41 rfl rfl ?_
          refine gx_callS (As := [.int set, .int (nI (qo g i))]) (st := []) hC (c_X3_contains l Y (f, σ.2) set (qo g i) (by omega)) kX3_contains wm_RX3_187 rfl rfl rfl rfl dX3_walkRunOrder_42 rfl (gx_ki fun r42 τ42 hq42 => ?_)
          obtain ⟨rfl, ⟨rfl, hb42⟩ | ⟨rfl, hb42⟩⟩ := hq42
          · refine gx_if_eq_f (tgt := 56) hX dX3_walkRunOrder_45 (by decide) rfl (by decide) ?_
            refine gx_aload_n hX 2 dX3_walkRunOrder_48 rfl rfl ?_
            refine gx_iload_n hX 1 dX3_walkRunOrder_49 rfl rfl ?_
            obtain ⟨⟨j, hj, hj4⟩, hsl, hsr⟩ := w5 hb42
            refine gx_callV (As := [.int (nI (qo g i))]) (st := []) hC (c_X3_run l Y nb (f, σ.2) g hM hn hc dG.2.1 (qwk g set r0 i).1 hI.2.2.1 j hj hj4 hI.2.2.2.1 (qo g i) hok w2 hsl hsr ) kX3_run wm_RX3_191 rfl hM.1 rfl rfl rfl rfl rfl dX3_walkRunOrder_50 rfl (gx_kv fun τ50 hq50 => ?_)
            obtain ⟨f50, w50⟩ := τ50
            obtain rfl : w50 = σ.2 := hq50.1.1
            refine gx_iconst (v := 1) hX dX3_walkRunOrder_53 rfl (by decide) ?_
            refine gx_istore (lv' := [(4, .int 1), (3, .int (nI (qo g i))), (0, .ref nb), (1, .int set), (2, .int (nI i))]) hX dX3_walkRunOrder_54 rfl (by decide) rfl ?_
            refine gx_iload hX 0 dX3_walkRunOrder_56 rfl rfl ?_
            refine gx_if_eq_f (tgt := 73) hX dX3_walkRunOrder_58 (by decide) rfl (by decide) ?_
            refine gx_aload_n hX 2 dX3_walkRunOrder_61 rfl rfl ?_
            refine gx_dup hX dX3_walkRunOrder_62 rfl rfl ?_
            refine gx_get hC 5 inlX3 wf_RX3_35 rfl hM.1 rfl rfl rfl rfl dX3_walkRunOrder_63 rfl ?_
            refine gx_iconst (v := 1) hX dX3_walkRunOrder_66 rfl (by decide) ?_
            refine gx_iload_n hX 1 dX3_walkRunOrder_67 rfl rfl ?_
            refine gx_ishl hX dX3_walkRunOrder_68 rfl ?_
            refine gx_ior hX dX3_walkRunOrder_69 rfl ?_
            refine gx_put (τ := uI (f50, σ.2) nb 5 (((f50, σ.2).1 nb 5) ||| (1 <<< ((nI (qo g i)) &&& 31)))) hC 5 inlX3 tyX3_ok nmX3 wf_RX3_35 rfl hM.1 rfl rfl (by simp [gE, uI]) (fun b hb => gEnt_I hb) rfl rfl rfl rfl rfl rfl rfl dX3_walkRunOrder_70 rfl ?_
            refine gx_iinc (w := (nI (i + 1))) (lv' := [(2, .int (nI (i + 1))), (4, .int 1), (3, .int (nI (qo g i))), (0, .ref nb), (1, .int set)]) hX 4 dX3_walkRunOrder_73 rfl rfl (nI_add _ _) (by decide) rfl ?_
            refine gx_goto (pc' := 7) hX dX3_walkRunOrder_76 (by decide) ?_
            exact gx_sub [3, 4, 0] rfl (ih7 (i + 1) (uI (f50, σ.2) nb 5 (((f50, σ.2).1 nb 5) ||| (1 <<< ((nI (qo g i)) &&& 31)))).1 (by omega) (by omega) (hI.b hM hc hi2 hb30 hb42 hq50))
          · refine gx_if_eq_t (tgt := 56) hX dX3_walkRunOrder_45 (by decide) (by decide) ?_
            refine gx_iload hX 0 dX3_walkRunOrder_56 rfl rfl ?_
            refine gx_if_eq_t (tgt := 73) hX dX3_walkRunOrder_58 (by decide) (by decide) ?_
            refine gx_iinc (w := (nI (i + 1))) (lv' := [(2, .int (nI (i + 1))), (4, .int 0), (3, .int (nI (qo g i))), (0, .ref nb), (1, .int set)]) hX 4 dX3_walkRunOrder_73 rfl rfl (nI_add _ _) (by decide) rfl ?_
            refine gx_goto (pc' := 7) hX dX3_walkRunOrder_76 (by decide) ?_
            exact gx_sub [3, 4, 0] rfl (ih7 (i + 1) f (by omega) (by omega) (hI.c hb30 hb42 w4))
  exact gx_sub [1, 2, 0] rfl (L7 (qm g + 2) 0 (uI σ nb 5 0).1 (by omega) (by omega) (zWI.ini hM hc hB hL))
