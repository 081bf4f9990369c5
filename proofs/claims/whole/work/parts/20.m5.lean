set_option maxRecDepth 100000 in
set_option maxHeartbeats 4000000 in
theorem c_X4_isDefinition (l : Launch) (Y : gL) (σ : gS) (v op x y : Int32) : gM l yX4_isDefinition cX4_isDefinition 4 (some .boolean) (gRm 1 22) Y [.int v, .int op, .int x, .int y] σ (gI fun z τ => σ = τ ∧ ((z = 1 ∧ ((¬ v < 0 ∧ ¬ 9 < v) ∧ (¬ op < 0 ∧ ¬ 5 < op) ∧ (¬ x < 0 ∧ ¬ 109 < x) ∧ (¬ y < 0 ∧ ¬ 109 < y))) ∨ (z = 0 ∧ ¬ ((¬ v < 0 ∧ ¬ 9 < v) ∧ (¬ op < 0 ∧ ¬ 5 < op) ∧ (¬ x < 0 ∧ ¬ 109 < x) ∧ (¬ y < 0 ∧ ¬ 109 < y))))) := by
  refine gM.of (by decide) rfl ?_
  intro p e s m args below meth c hC
  have hX := hC.1
  refine gx_iload_n hX 0 dX4_isDefinition_0 rfl rfl ?_
  refine gx_iconst (v := 0) hX dX4_isDefinition_1 rfl (by decide) ?_
  refine gx_bipush (v := 9) hX dX4_isDefinition_2 rfl (by decide) ?_
  refine gx_callS (As := [.int v, .int 0, .int 9]) (st := []) hC (c_X4_in l Y σ v 0 9) kX4_in wm_RX4_42 rfl rfl rfl rfl dX4_isDefinition_4 rfl (gx_ki fun r4 τ4 hq4 => ?_)
  obtain ⟨rfl, ⟨rfl, hb4⟩ | ⟨rfl, hb4⟩⟩ := hq4
  · refine gx_if_eq_f (tgt := 43) hX dX4_isDefinition_7 (by decide) rfl (by decide) ?_
    refine gx_iload_n hX 1 dX4_isDefinition_10 rfl rfl ?_
    refine gx_iconst (v := 0) hX dX4_isDefinition_11 rfl (by decide) ?_
    refine gx_iconst (v := 5) hX dX4_isDefinition_12 rfl (by decide) ?_
    refine gx_callS (As := [.int op, .int 0, .int 5]) (st := []) hC (c_X4_in l Y σ op 0 5) kX4_in wm_RX4_42 rfl rfl rfl rfl dX4_isDefinition_13 rfl (gx_ki fun r13 τ13 hq13 => ?_)
    obtain ⟨rfl, ⟨rfl, hb13⟩ | ⟨rfl, hb13⟩⟩ := hq13
    · refine gx_if_eq_f (tgt := 43) hX dX4_isDefinition_16 (by decide) rfl (by decide) ?_
      refine gx_iload_n hX 2 dX4_isDefinition_19 rfl rfl ?_
      refine gx_iconst (v := 0) hX dX4_isDefinition_20 rfl (by decide) ?_
      refine gx_bipush (v := 109) hX dX4_isDefinition_21 rfl (by decide) ?_
      refine gx_callS (As := [.int x, .int 0, .int 109]) (st := []) hC (c_X4_in l Y σ x 0 109) kX4_in wm_RX4_42 rfl rfl rfl rfl dX4_isDefinition_23 rfl (gx_ki fun r23 τ23 hq23 => ?_)
      obtain ⟨rfl, ⟨rfl, hb23⟩ | ⟨rfl, hb23⟩⟩ := hq23
      · refine gx_if_eq_f (tgt := 43) hX dX4_isDefinition_26 (by decide) rfl (by decide) ?_
        refine gx_iload_n hX 3 dX4_isDefinition_29 rfl rfl ?_
        refine gx_iconst (v := 0) hX dX4_isDefinition_30 rfl (by decide) ?_
        refine gx_bipush (v := 109) hX dX4_isDefinition_31 rfl (by decide) ?_
        refine gx_callS (As := [.int y, .int 0, .int 109]) (st := []) hC (c_X4_in l Y σ y 0 109) kX4_in wm_RX4_42 rfl rfl rfl rfl dX4_isDefinition_33 rfl (gx_ki fun r33 τ33 hq33 => ?_)
        obtain ⟨rfl, ⟨rfl, hb33⟩ | ⟨rfl, hb33⟩⟩ := hq33
        · refine gx_if_eq_f (tgt := 43) hX dX4_isDefinition_36 (by decide) rfl (by decide) ?_
          refine gx_iconst (v := 1) hX dX4_isDefinition_39 rfl (by decide) ?_
          refine gx_goto (pc' := 44) hX dX4_isDefinition_40 (by decide) ?_
          exact gx_zret hC rfl dX4_isDefinition_44 (⟨rfl, Or.inl ⟨rfl, hb4, hb13, hb23, hb33⟩⟩)
        · refine gx_if_eq_t (tgt := 43) hX dX4_isDefinition_36 (by decide) (by decide) ?_
          refine gx_iconst (v := 0) hX dX4_isDefinition_43 rfl (by decide) ?_
          exact gx_zret hC rfl dX4_isDefinition_44 (⟨rfl, Or.inr ⟨rfl, fun z => by first | exact hb4 z.1 | exact hb13 z.2.1 | exact hb23 z.2.2.1 | exact hb33 z.2.2.2⟩⟩)
      · refine gx_if_eq_t (tgt := 43) hX dX4_isDefinition_26 (by decide) (by decide) ?_
        refine gx_iconst (v := 0) hX dX4_isDefinition_43 rfl (by decide) ?_
        exact gx_zret hC rfl dX4_isDefinition_44 (⟨rfl, Or.inr ⟨rfl, fun z => by first | exact hb4 z.1 | exact hb13 z.2.1 | exact hb23 z.2.2.1 | exact hb33 z.2.2.2⟩⟩)
    · refine gx_if_eq_t (tgt := 43) hX dX4_isDefinition_16 (by decide) (by decide) ?_
      refine gx_iconst (v := 0) hX dX4_isDefinition_43 rfl (by decide) ?_
      exact gx_zret hC rfl dX4_isDefinition_44 (⟨rfl, Or.inr ⟨rfl, fun z => by first | exact hb4 z.1 | exact hb13 z.2.1 | exact hb23 z.2.2.1 | exact hb33 z.2.2.2⟩⟩)
  · refine gx_if_eq_t (tgt := 43) hX dX4_isDefinition_7 (by decide) (by decide) ?_
    refine gx_iconst (v := 0) hX dX4_isDefinition_43 rfl (by decide) ?_
    exact gx_zret hC rfl dX4_isDefinition_44 (⟨rfl, Or.inr ⟨rfl, fun z => by first | exact hb4 z.1 | exact hb13 z.2.1 | exact hb23 z.2.2.1 | exact hb33 z.2.2.2⟩⟩)

set_option maxRecDepth 100000 in
set_option maxHeartbeats 4000000 in
theorem c_X4_save (l : Launch) (Y : gL) (mo : Nat) (σ : gS) (r : Nat → Int32) (n : Nat) (P : Nat → Nat → Int32) (q : Nat) (cn : Nat → Int32) (hM : gLM Y mo) (hA : gMA Y mo σ (r, n, P, q, cn)) : gM l yX4_save cX4_save 2 none (gRm 0 0) Y [.ref mo] σ (gV fun τ => gEq Y [15, 16, 17] σ τ ∧ gMA Y mo τ (qsv r, n, qpush P q r, qpn q, cn)) := by
  have hr : gRow Y mo σ r n := hA.1
  have hr1 := hr.1
  have hr2 := hr.2.1
  have hr3 := hr.2.2
  have hq2 : q ≤ 4 := hA.2.1.1
  have hq3 : σ.1 mo 2 = nI q := hA.2.1.2.1
  have hq4 : ∀ j i, j < q → i < 137 → σ.1 (gF Y mo 1) (137 * j + i) = P j i := hA.2.1.2.2
  refine gM.of (by decide) rfl ?_
  intro p e s m args below meth c hC
  have hX := hC.1
  have J49 : ∀ (τ : gS) (P1 : Nat → Nat → Int32) (q1 : Nat), (q1 ≤ 3) → (gEq Y [15, 17] σ τ) → (τ.1 mo 2 = nI q1) → (∀ j i, j < q1 → i < 137 → τ.1 (gF Y mo 1) (137 * j + i) = P1 j i) → (qpush P q r = (fun j => if j < q1 then P1 j else r) ∧ qpn q = q1 + 1) → gG p l e (gRm 0 0) s m args below meth c Y (gV fun τ => gEq Y [15, 16, 17] σ τ ∧ gMA Y mo τ (qsv r, n, qpush P q r, qpn q, cn)) τ 49 [(0, .ref mo)] [] := by
    intro τ P1 q1 hq1 he h2 hc hp
    have hrt := hr.eq hM he (by decide)
    refine gx_iconst (v := 0) hX dX4_save_49 rfl (by decide) ?_
    refine gx_istore_n (lv' := [(1, .int 0), (0, .ref mo)]) hX dX4_save_50 rfl (by decide) rfl ?_
    have L51 : ∀ (k51 : Nat) (k : Nat) (υ : gS), 137 - k < k51 → (k ≤ 137) → (gEq Y [17] τ υ) → (∀ j, j < k → υ.1 (gF Y mo 1) (137 * q1 + j) = r j) → (∀ j, j < 137 * q1 → υ.1 (gF Y mo 1) j = τ.1 (gF Y mo 1) j) → gG p l e (gRm 0 0) s m args below meth c Y (gV fun τ => gEq Y [15, 16, 17] σ τ ∧ gMA Y mo τ (qsv r, n, qpush P q r, qpn q, cn)) υ 51 [(0, .ref mo), (1, .int (nI k))] [] := by
      intro k51
      induction k51 with
      | zero => intro k υ hk51; exact absurd hk51 (Nat.not_lt_zero _)
      | succ k51 ih51 =>
        intro k υ hk51 hk heu hf hb
        have hru := hrt.eq hM heu (by decide)
        refine gx_iload_n hX 1 dX4_save_51 rfl rfl ?_
        refine gx_sipush (v := 137) hX dX4_save_52 rfl (by decide) ?_
        refine gx_nat_ge (i := k) (j := 137) (tgt := 85) hX dX4_save_55 (by decide) rfl rfl rfl (by omega) (by omega) (fun h55 => ?_) (fun h55 => ?_)
        · refine gx_aload_n hX 0 dX4_save_85 rfl rfl ?_
          refine gx_dup hX dX4_save_86 rfl rfl ?_
          refine gx_get hC 2 inlX4 wf_RX4_46 rfl (gM0 hM) rfl rfl rfl rfl dX4_save_87 rfl ?_
          refine gx_topi (b := (nI q1)) (by rw [heu.at (gM0 hM) (by decide)]; exact h2) ?_
          refine gx_iconst (v := 1) hX dX4_save_90 rfl (by decide) ?_
          refine gx_iaddN (i := q1) (j := 1) hX dX4_save_91 rfl rfl rfl ?_
          refine gx_put (τ := uI υ mo 2 (nI (q1 + 1))) hC 2 inlX4 tyX4_ok nmX4 wf_RX4_46 rfl (gM0 hM) rfl rfl (by simp [gE, uI]) (fun b hb => gEnt_I hb) rfl rfl rfl rfl rfl rfl rfl dX4_save_92 rfl ?_
          refine gx_aload_n hX 0 dX4_save_95 rfl rfl ?_
          refine gx_get hC 0 inlX4 wf_RX4_7 rfl (gM0 hM) rfl rfl rfl rfl dX4_save_96 rfl ?_
          refine gx_iconst (v := 4) hX dX4_save_99 rfl (by decide) ?_
          refine gx_iconst (v := 0) hX dX4_save_100 rfl (by decide) ?_
          refine gx_iast (i := 4) hC (gM1 hM) rfl rfl rfl rfl (by omega) rfl dX4_save_101 rfl ?_
          refine gx_vret hC dX4_save_102 ?_
          have hk7 : k = 137 := by omega
          have hne1 := gK_ne (gM2 hM) (gM1 hM) (by decide)
          have hne2 := gK_ne (gM2 hM) (gM0 hM) (by decide)
          refine ⟨(((he.mono (by decide)).tr (heu.mono (by decide))).put (gM0 hM) (by decide)).put (gM1 hM) (by decide), (hru.put (gM0 hM) (by decide) hM).now (by omega), gPast.fin hq1 hp.1 hp.2 (by rw [uI_ne (gK_ne (gM0 hM) (gM1 hM) (by decide)), uI_at]) (fun j i hj hi => by rw [uI_ne hne1, uI_ne hne2, hb _ (by omega)]; exact hc j i hj hi) (fun i hi => by rw [uI_ne hne1, uI_ne hne2]; exact hf i (by omega)), ?_⟩
          rw [uI_ne (gK_ne (gM3 hM) (gM1 hM) (by decide)), uI_ne (gK_ne (gM3 hM) (gM0 hM) (by decide)), heu.at (gM3 hM) (by decide), he.at (gM3 hM) (by decide)]; exact hA.2.2
        · refine gx_aload_n hX 0 dX4_save_58 rfl rfl ?_
          refine gx_get hC 1 inlX4 wf_RX4_13 rfl (gM0 hM) rfl rfl rfl rfl dX4_save_59 rfl ?_
          refine gx_sipush (v := 137) hX dX4_save_62 rfl (by decide) ?_
          refine gx_aload_n hX 0 dX4_save_65 rfl rfl ?_
          refine gx_get hC 2 inlX4 wf_RX4_46 rfl (gM0 hM) rfl rfl rfl rfl dX4_save_66 rfl ?_
          refine gx_topi (b := (nI q1)) (by rw [heu.at (gM0 hM) (by decide)]; exact h2) ?_
          refine gx_imulN (i := 137) (j := q1) hX dX4_save_69 rfl rfl rfl ?_
          refine gx_iload_n hX 1 dX4_save_70 rfl rfl ?_
          refine gx_iaddN (i := 137 * q1) (j := k) hX dX4_save_71 rfl rfl rfl ?_
          refine gx_aload_n hX 0 dX4_save_72 rfl rfl ?_
          refine gx_get hC 0 inlX4 wf_RX4_7 rfl (gM0 hM) rfl rfl rfl rfl dX4_save_73 rfl ?_
          refine gx_iload_n hX 1 dX4_save_76 rfl rfl ?_
          refine gx_iald (i := k) hC (gM1 hM) rfl rfl (by omega) rfl dX4_save_77 rfl ?_
          refine gx_topi (b := (r k)) (by rw [(hru).1]) ?_
          refine gx_iast (i := (137 * q1) + k) hC (gM2 hM) rfl rfl rfl rfl (by omega) rfl dX4_save_78 rfl ?_
          refine gx_iinc (w := (nI (k + 1))) (lv' := [(1, .int (nI (k + 1))), (0, .ref mo)]) hX 1 dX4_save_79 rfl rfl (nI_add _ _) (by decide) rfl ?_
          refine gx_goto (pc' := 51) hX dX4_save_82 (by decide) ?_
          exact gx_sub [1, 0] rfl (ih51 (k + 1) _ (by omega) (by omega) (heu.put (gM2 hM) (by decide)) (uI_rng2 (b := 137 * q1) hf rfl) (fun j hj => by rw [uI_off (by omega)]; exact hb j hj))
    exact gx_sub [1, 0] rfl (L51 138 0 τ (by omega) (by omega) gEq.rf (fun j hj => absurd hj (Nat.not_lt_zero j)) (fun _ _ => rfl))
  refine gx_aload_n hX 0 dX4_save_0 rfl rfl ?_
  refine gx_get hC 2 inlX4 wf_RX4_46 rfl (gM0 hM) rfl rfl rfl rfl dX4_save_1 rfl ?_
  refine gx_topi (b := (nI q)) hq3 ?_
  refine gx_iconst (v := 4) hX dX4_save_4 rfl (by decide) ?_
  refine gx_nat_ne (i := q) (j := 4) (tgt := 49) hX dX4_save_5 (by decide) rfl rfl rfl (by omega) (by omega) (fun h5 => ?_) (fun h5 => ?_)
  · exact gx_sub [0] rfl (J49 _ P q (by omega) gEq.rf hq3 hq4 (qpush_3 h5))
  · refine gx_iconst (v := 0) hX dX4_save_8 rfl (by decide) ?_
    refine gx_istore_n (lv' := [(1, .int 0), (0, .ref mo)]) hX dX4_save_9 rfl (by decide) rfl ?_
    have L10 : ∀ (k10 : Nat) (i : Nat) (τ : gS), 411 - i < k10 → (i ≤ 411) → (gEq Y [17] σ τ) → (∀ j, j < i → τ.1 (gF Y mo 1) j = σ.1 (gF Y mo 1) (j + 137)) → (∀ j, i ≤ j → τ.1 (gF Y mo 1) j = σ.1 (gF Y mo 1) j) → gG p l e (gRm 0 0) s m args below meth c Y (gV fun τ => gEq Y [15, 16, 17] σ τ ∧ gMA Y mo τ (qsv r, n, qpush P q r, qpn q, cn)) τ 10 [(0, .ref mo), (1, .int (nI i))] [] := by
      intro k10
      induction k10 with
      | zero => intro i τ hk10; exact absurd hk10 (Nat.not_lt_zero _)
      | succ k10 ih10 =>
        intro i τ hk10 hi he hlo hhi
        refine gx_iload_n hX 1 dX4_save_10 rfl rfl ?_
        refine gx_sipush (v := 411) hX dX4_save_11 rfl (by decide) ?_
        refine gx_nat_ge (i := i) (j := 411) (tgt := 39) hX dX4_save_14 (by decide) rfl rfl rfl (by omega) (by omega) (fun h14 => ?_) (fun h14 => ?_)
        · refine gx_aload_n hX 0 dX4_save_39 rfl rfl ?_
          refine gx_dup hX dX4_save_40 rfl rfl ?_
          refine gx_get hC 2 inlX4 wf_RX4_46 rfl (gM0 hM) rfl rfl rfl rfl dX4_save_41 rfl ?_
          refine gx_topi (b := (nI 4)) (by rw [he.at (gM0 hM) (by decide), hq3, h5]) ?_
          refine gx_iconst (v := 1) hX dX4_save_44 rfl (by decide) ?_
          refine gx_isubN (i := 4) (j := 1) hX dX4_save_45 rfl rfl rfl (by omega) ?_
          refine gx_put (τ := uI τ mo 2 (nI (4 - 1))) hC 2 inlX4 tyX4_ok nmX4 wf_RX4_46 rfl (gM0 hM) rfl rfl (by simp [gE, uI]) (fun b hb => gEnt_I hb) rfl rfl rfl rfl rfl rfl rfl dX4_save_46 rfl ?_
          exact gx_sub [0] rfl (J49 _ (fun j => P (j + 1)) 3 (by omega) ((he.mono (by decide)).put (gM0 hM) (by decide)) uI_at (fun j i hj hi => by rw [uI_ne (gK_ne (gM2 hM) (gM0 hM) (by decide)), hlo _ (by omega), show 137 * j + i + 137 = 137 * (j + 1) + i by omega]; exact hq4 (j + 1) i (by omega) hi) (qpush_4 h5))
        · refine gx_aload_n hX 0 dX4_save_17 rfl rfl ?_
          refine gx_get hC 1 inlX4 wf_RX4_13 rfl (gM0 hM) rfl rfl rfl rfl dX4_save_18 rfl ?_
          refine gx_iload_n hX 1 dX4_save_21 rfl rfl ?_
          refine gx_aload_n hX 0 dX4_save_22 rfl rfl ?_
          refine gx_get hC 1 inlX4 wf_RX4_13 rfl (gM0 hM) rfl rfl rfl rfl dX4_save_23 rfl ?_
          refine gx_iload_n hX 1 dX4_save_26 rfl rfl ?_
          refine gx_sipush (v := 137) hX dX4_save_27 rfl (by decide) ?_
          refine gx_iaddN (i := i) (j := 137) hX dX4_save_30 rfl rfl rfl ?_
          refine gx_iald (i := i + 137) hC (gM2 hM) rfl rfl (by omega) rfl dX4_save_31 rfl ?_
          refine gx_iast (i := i) hC (gM2 hM) rfl rfl rfl rfl (by omega) rfl dX4_save_32 rfl ?_
          refine gx_iinc (w := (nI (i + 1))) (lv' := [(1, .int (nI (i + 1))), (0, .ref mo)]) hX 1 dX4_save_33 rfl rfl (nI_add _ _) (by decide) rfl ?_
          refine gx_goto (pc' := 10) hX dX4_save_36 (by decide) ?_
          exact gx_sub [1, 0] rfl (ih10 (i + 1) _ (by omega) (by omega) (he.put (gM2 hM) (by decide)) (uI_rng (P := fun j => σ.1 (gF Y mo 1) (j + 137)) hlo (hhi _ (by omega))) (uI_keep hhi))
    exact gx_sub [1, 0] rfl (L10 412 0 σ (by omega) (by omega) gEq.rf (fun j hj => absurd hj (Nat.not_lt_zero j)) (fun _ _ => rfl))

set_option maxRecDepth 100000 in
set_option maxHeartbeats 4000000 in
theorem c_X4_define (l : Launch) (Y : gL) (mo : Nat) (σ : gS) (r : Nat → Int32) (n : Nat) (hM : gLM Y mo) (hr : gRow Y mo σ r n) (i : Nat) (hi : i < 12) (v op x y : Int32) : gM l yX4_define cX4_define 6 none (gRm 1 21) Y [.ref mo, .int (nI i), .int v, .int op, .int x, .int y] σ (gV fun τ => gEq Y [16] σ τ ∧ gRow Y mo τ (qdef r i v op x y) n) := by
  have hr1 := hr.1
  have hr2 := hr.2.1
  have hr3 := hr.2.2
  refine gM.of (by decide) rfl ?_
  intro p e s m args below meth c hC
  have hX := hC.1
  refine gx_aload_n hX 0 dX4_define_0 rfl rfl ?_
  refine gx_get hC 0 inlX4 wf_RX4_7 rfl (gM0 hM) rfl rfl rfl rfl dX4_define_1 rfl ?_
  refine gx_iload_n hX 1 dX4_define_4 rfl rfl ?_
  refine gx_iconst (v := 0) hX dX4_define_5 rfl (by decide) ?_
  refine gx_callS (As := [.int (nI i), .int 0]) (st := [.ref (gF Y mo 0)]) hC (c_X4_at l Y σ i 0) kX4_at wm_RX4_38 rfl rfl rfl rfl dX4_define_6 rfl (gx_ki fun r6 τ6 hq6 => ?_)
  obtain ⟨rfl, rfl⟩ := hq6
  refine gx_iload_n hX 2 dX4_define_9 rfl rfl ?_
  refine gx_iast (i := 17 + 10 * i + 0) hC (gM1 hM) rfl rfl rfl rfl (by omega) rfl dX4_define_10 rfl ?_
  refine gx_aload_n hX 0 dX4_define_11 rfl rfl ?_
  refine gx_get hC 0 inlX4 wf_RX4_7 rfl (gM0 hM) rfl rfl rfl rfl dX4_define_12 rfl ?_
  refine gx_iload_n hX 1 dX4_define_15 rfl rfl ?_
  refine gx_iconst (v := 1) hX dX4_define_16 rfl (by decide) ?_
  refine gx_callS (As := [.int (nI i), .int 1]) (st := [.ref (gF Y mo 0)]) hC (c_X4_at l Y (uI σ (gF Y mo 0) (17 + 10 * i + 0) v) i 1) kX4_at wm_RX4_38 rfl rfl rfl rfl dX4_define_17 rfl (gx_ki fun r17 τ17 hq17 => ?_)
  obtain ⟨rfl, rfl⟩ := hq17
  refine gx_iload_n hX 3 dX4_define_20 rfl rfl ?_
  refine gx_iast (i := 17 + 10 * i + 1) hC (gM1 hM) rfl rfl rfl rfl (by omega) rfl dX4_define_21 rfl ?_
  refine gx_aload_n hX 0 dX4_define_22 rfl rfl ?_
  refine gx_get hC 0 inlX4 wf_RX4_7 rfl (gM0 hM) rfl rfl rfl rfl dX4_define_23 rfl ?_
  refine gx_iload_n hX 1 dX4_define_26 rfl rfl ?_
  refine gx_iconst (v := 2) hX dX4_define_27 rfl (by decide) ?_
  refine gx_callS (As := [.int (nI i), .int 2]) (st := [.ref (gF Y mo 0)]) hC (c_X4_at l Y (uI (uI σ (gF Y mo 0) (17 + 10 * i + 0) v) (gF Y mo 0) (17 + 10 * i + 1) op) i 2) kX4_at wm_RX4_38 rfl rfl rfl rfl dX4_define_28 rfl (gx_ki fun r28 τ28 hq28 => ?_)
  obtain ⟨rfl, rfl⟩ := hq28
  refine gx_iload hX 4 dX4_define_31 rfl rfl ?_
  refine gx_iast (i := 17 + 10 * i + 2) hC (gM1 hM) rfl rfl rfl rfl (by omega) rfl dX4_define_33 rfl ?_
  refine gx_aload_n hX 0 dX4_define_34 rfl rfl ?_
  refine gx_get hC 0 inlX4 wf_RX4_7 rfl (gM0 hM) rfl rfl rfl rfl dX4_define_35 rfl ?_
  refine gx_iload_n hX 1 dX4_define_38 rfl rfl ?_
  refine gx_iconst (v := 3) hX dX4_define_39 rfl (by decide) ?_
  refine gx_callS (As := [.int (nI i), .int 3]) (st := [.ref (gF Y mo 0)]) hC (c_X4_at l Y (uI (uI (uI σ (gF Y mo 0) (17 + 10 * i + 0) v) (gF Y mo 0) (17 + 10 * i + 1) op) (gF Y mo 0) (17 + 10 * i + 2) x) i 3) kX4_at wm_RX4_38 rfl rfl rfl rfl dX4_define_40 rfl (gx_ki fun r40 τ40 hq40 => ?_)
  obtain ⟨rfl, rfl⟩ := hq40
  refine gx_iload hX 5 dX4_define_43 rfl rfl ?_
  refine gx_iast (i := 17 + 10 * i + 3) hC (gM1 hM) rfl rfl rfl rfl (by omega) rfl dX4_define_45 rfl ?_
  refine gx_aload_n hX 0 dX4_define_46 rfl rfl ?_
  refine gx_get hC 0 inlX4 wf_RX4_7 rfl (gM0 hM) rfl rfl rfl rfl dX4_define_47 rfl ?_
  refine gx_iload_n hX 1 dX4_define_50 rfl rfl ?_
  refine gx_iconst (v := 4) hX dX4_define_51 rfl (by decide) ?_
  refine gx_callS (As := [.int (nI i), .int 4]) (st := [.ref (gF Y mo 0)]) hC (c_X4_at l Y (uI (uI (uI (uI σ (gF Y mo 0) (17 + 10 * i + 0) v) (gF Y mo 0) (17 + 10 * i + 1) op) (gF Y mo 0) (17 + 10 * i + 2) x) (gF Y mo 0) (17 + 10 * i + 3) y) i 4) kX4_at wm_RX4_38 rfl rfl rfl rfl dX4_define_52 rfl (gx_ki fun r52 τ52 hq52 => ?_)
  obtain ⟨rfl, rfl⟩ := hq52
  refine gx_iconst (v := 0) hX dX4_define_55 rfl (by decide) ?_
  refine gx_iast (i := 17 + 10 * i + 4) hC (gM1 hM) rfl rfl rfl rfl (by omega) rfl dX4_define_56 rfl ?_
  refine gx_aload_n hX 0 dX4_define_57 rfl rfl ?_
  refine gx_get hC 0 inlX4 wf_RX4_7 rfl (gM0 hM) rfl rfl rfl rfl dX4_define_58 rfl ?_
  refine gx_iload_n hX 1 dX4_define_61 rfl rfl ?_
  refine gx_iconst (v := 5) hX dX4_define_62 rfl (by decide) ?_
  refine gx_callS (As := [.int (nI i), .int 5]) (st := [.ref (gF Y mo 0)]) hC (c_X4_at l Y (uI (uI (uI (uI (uI σ (gF Y mo 0) (17 + 10 * i + 0) v) (gF Y mo 0) (17 + 10 * i + 1) op) (gF Y mo 0) (17 + 10 * i + 2) x) (gF Y mo 0) (17 + 10 * i + 3) y) (gF Y mo 0) (17 + 10 * i + 4) 0) i 5) kX4_at wm_RX4_38 rfl rfl rfl rfl dX4_define_63 rfl (gx_ki fun r63 τ63 hq63 => ?_)
  obtain ⟨rfl, rfl⟩ := hq63
  refine gx_iconst (v := 0) hX dX4_define_66 rfl (by decide) ?_
  refine gx_iast (i := 17 + 10 * i + 5) hC (gM1 hM) rfl rfl rfl rfl (by omega) rfl dX4_define_67 rfl ?_
  refine gx_aload_n hX 0 dX4_define_68 rfl rfl ?_
  refine gx_get hC 0 inlX4 wf_RX4_7 rfl (gM0 hM) rfl rfl rfl rfl dX4_define_69 rfl ?_
  refine gx_iload_n hX 1 dX4_define_72 rfl rfl ?_
  refine gx_bipush (v := 6) hX dX4_define_73 rfl (by decide) ?_
  refine gx_callS (As := [.int (nI i), .int 6]) (st := [.ref (gF Y mo 0)]) hC (c_X4_at l Y (uI (uI (uI (uI (uI (uI σ (gF Y mo 0) (17 + 10 * i + 0) v) (gF Y mo 0) (17 + 10 * i + 1) op) (gF Y mo 0) (17 + 10 * i + 2) x) (gF Y mo 0) (17 + 10 * i + 3) y) (gF Y mo 0) (17 + 10 * i + 4) 0) (gF Y mo 0) (17 + 10 * i + 5) 0) i 6) kX4_at wm_RX4_38 rfl rfl rfl rfl dX4_define_75 rfl (gx_ki fun r75 τ75 hq75 => ?_)
  obtain ⟨rfl, rfl⟩ := hq75
  refine gx_iconst (v := 0) hX dX4_define_78 rfl (by decide) ?_
  refine gx_iast (i := 17 + 10 * i + 6) hC (gM1 hM) rfl rfl rfl rfl (by omega) rfl dX4_define_79 rfl ?_
  refine gx_aload_n hX 0 dX4_define_80 rfl rfl ?_
  refine gx_get hC 0 inlX4 wf_RX4_7 rfl (gM0 hM) rfl rfl rfl rfl dX4_define_81 rfl ?_
  refine gx_iload_n hX 1 dX4_define_84 rfl rfl ?_
  refine gx_bipush (v := 7) hX dX4_define_85 rfl (by decide) ?_
  refine gx_callS (As := [.int (nI i), .int 7]) (st := [.ref (gF Y mo 0)]) hC (c_X4_at l Y (uI (uI (uI (uI (uI (uI (uI σ (gF Y mo 0) (17 + 10 * i + 0) v) (gF Y mo 0) (17 + 10 * i + 1) op) (gF Y mo 0) (17 + 10 * i + 2) x) (gF Y mo 0) (17 + 10 * i + 3) y) (gF Y mo 0) (17 + 10 * i + 4) 0) (gF Y mo 0) (17 + 10 * i + 5) 0) (gF Y mo 0) (17 + 10 * i + 6) 0) i 7) kX4_at wm_RX4_38 rfl rfl rfl rfl dX4_define_87 rfl (gx_ki fun r87 τ87 hq87 => ?_)
  obtain ⟨rfl, rfl⟩ := hq87
  refine gx_iconst (v := 0) hX dX4_define_90 rfl (by decide) ?_
  refine gx_iast (i := 17 + 10 * i + 7) hC (gM1 hM) rfl rfl rfl rfl (by omega) rfl dX4_define_91 rfl ?_
  exact gx_vret hC dX4_define_92 (⟨(((((((gEq.rf.put (gM1 hM) (by decide)).put (gM1 hM) (by decide)).put (gM1 hM) (by decide)).put (gM1 hM) (by decide)).put (gM1 hM) (by decide)).put (gM1 hM) (by decide)).put (gM1 hM) (by decide)).put (gM1 hM) (by decide), (((((((hr.now (by omega)).now (by omega)).now (by omega)).now (by omega)).now (by omega)).now (by omega)).now (by omega)).now (by omega)⟩)

set_option maxRecDepth 100000 in
set_option maxHeartbeats 4000000 in
theorem c_X4_copyCell (l : Launch) (Y : gL) (mo : Nat) (σ : gS) (r : Nat → Int32) (n : Nat) (hM : gLM Y mo) (hr : gRow Y mo σ r n) (i j : Nat) (hi : i < 12) (hj : j < 12) (hij : i ≠ j) : gM l yX4_copyCell cX4_copyCell 4 none (gRm 1 21) Y [.ref mo, .int (nI i), .int (nI j)] σ (gV fun τ => gEq Y [16] σ τ ∧ gRow Y mo τ (qlay r j (fun z => r (17 + 10 * i + z)) 10) n) := by
  have hr1 := hr.1
  have hr2 := hr.2.1
  have hr3 := hr.2.2
  refine gM.of (by decide) rfl ?_
  intro p e s m args below meth c hC
  have hX := hC.1
  refine gx_iconst (v := 0) hX dX4_copyCell_0 rfl (by decide) ?_
  refine gx_istore_n (lv' := [(3, .int 0), (0, .ref mo), (1, .int (nI i)), (2, .int (nI j))]) hX dX4_copyCell_1 rfl (by decide) rfl ?_
  have L2 : ∀ (k2 : Nat) (k : Nat) (τ : gS), 10 - k < k2 → (k ≤ 10) → (gEq Y [16] σ τ) → (gRow Y mo τ (qlay r j (fun z => r (17 + 10 * i + z)) k) n) → gG p l e (gRm 1 21) s m args below meth c Y (gV fun τ => gEq Y [16] σ τ ∧ gRow Y mo τ (qlay r j (fun z => r (17 + 10 * i + z)) 10) n) τ 2 [(0, .ref mo), (1, .int (nI i)), (2, .int (nI j)), (3, .int (nI k))] [] := by
    intro k2
    induction k2 with
    | zero => intro k τ hk2; exact absurd hk2 (Nat.not_lt_zero _)
    | succ k2 ih2 =>
      intro k τ hk2 hk he hrt
      refine gx_iload_n hX 3 dX4_copyCell_2 rfl rfl ?_
      refine gx_bipush (v := 10) hX dX4_copyCell_3 rfl (by decide) ?_
      refine gx_nat_ge (i := k) (j := 10) (tgt := 34) hX dX4_copyCell_5 (by decide) rfl rfl rfl (by omega) (by omega) (fun h5 => ?_) (fun h5 => ?_)
      · exact gx_vret hC dX4_copyCell_34 (⟨he, by rw [show k = 10 by omega] at hrt; exact hrt⟩)
      · refine gx_aload_n hX 0 dX4_copyCell_8 rfl rfl ?_
        refine gx_get hC 0 inlX4 wf_RX4_7 rfl (gM0 hM) rfl rfl rfl rfl dX4_copyCell_9 rfl ?_
        refine gx_iload_n hX 2 dX4_copyCell_12 rfl rfl ?_
        refine gx_iload_n hX 3 dX4_copyCell_13 rfl rfl ?_
        refine gx_callS (As := [.int (nI j), .int (nI k)]) (st := [.ref (gF Y mo 0)]) hC (c_X4_at l Y τ j k) kX4_at wm_RX4_38 rfl rfl rfl rfl dX4_copyCell_14 rfl (gx_ki fun r14 τ14 hq14 => ?_)
        obtain ⟨rfl, rfl⟩ := hq14
        refine gx_aload_n hX 0 dX4_copyCell_17 rfl rfl ?_
        refine gx_get hC 0 inlX4 wf_RX4_7 rfl (gM0 hM) rfl rfl rfl rfl dX4_copyCell_18 rfl ?_
        refine gx_iload_n hX 1 dX4_copyCell_21 rfl rfl ?_
        refine gx_iload_n hX 3 dX4_copyCell_22 rfl rfl ?_
        refine gx_callS (As := [.int (nI i), .int (nI k)]) (st := [.ref (gF Y mo 0), .int (nI (17 + 10 * j + k)), .ref (gF Y mo 0)]) hC (c_X4_at l Y τ i k) kX4_at wm_RX4_38 rfl rfl rfl rfl dX4_copyCell_23 rfl (gx_ki fun r23 τ23 hq23 => ?_)
        obtain ⟨rfl, rfl⟩ := hq23
        refine gx_iald (i := 17 + 10 * i + k) hC (gM1 hM) rfl rfl (by omega) rfl dX4_copyCell_26 rfl ?_
        refine gx_topi (b := (r (17 + 10 * i + k))) (by rw [hrt.1]; exact qlay_out (by omega)) ?_
        refine gx_iast (i := 17 + 10 * j + k) hC (gM1 hM) rfl rfl rfl rfl (by omega) rfl dX4_copyCell_27 rfl ?_
        refine gx_iinc (w := (nI (k + 1))) (lv' := [(3, .int (nI (k + 1))), (0, .ref mo), (1, .int (nI i)), (2, .int (nI j))]) hX 3 dX4_copyCell_28 rfl rfl (nI_add _ _) (by decide) rfl ?_
        refine gx_goto (pc' := 2) hX dX4_copyCell_31 (by decide) ?_
        exact gx_sub [1, 2, 3, 0] rfl (ih2 (k + 1) _ (by omega) (by omega) (he.put (gM1 hM) (by decide)) (by rw [← qlay_s]; exact hrt.now (by omega)))
  exact gx_sub [1, 2, 3, 0] rfl (L2 11 0 σ (by omega) (by omega) gEq.rf (by rw [qlay_0]; exact hr))

set_option maxRecDepth 100000 in
set_option maxHeartbeats 4000000 in
theorem c_X4_runIfEager (l : Launch) (Y : gL) (mo : Nat) (σ : gS) (r : Nat → Int32) (n : Nat) (hM : gLM Y mo) (hr : gRow Y mo σ r n) (B : Nat) (hB : B + 12 < 2 ^ 30) (hI : qRI r n B) (h4 : r 4 = 0) : gM l yX4_runIfEager cX4_runIfEager 1 none (gRm 8 179) Y [.ref mo] σ (gV fun τ => gEq Y [15, 16, 19, 20, 21, 22, 23] σ τ ∧ τ.1 mo 2 = σ.1 mo 2 ∧ gRow Y mo τ (qeag r n) n) := by
  have hr1 := hr.1
  have hr2 := hr.2.1
  have hr3 := hr.2.2
  refine gM.of (by decide) rfl ?_
  intro p e s m args below meth c hC
  have hX := hC.1
  refine gx_aload_n hX 0 dX4_runIfEager_0 rfl rfl ?_
  refine gx_get hC 0 inlX4 wf_RX4_7 rfl (gM0 hM) rfl rfl rfl rfl dX4_runIfEager_1 rfl ?_
  refine gx_iconst (v := 1) hX dX4_runIfEager_4 rfl (by decide) ?_
  refine gx_iald (i := 1) hC (gM1 hM) rfl rfl (by omega) rfl dX4_runIfEager_5 rfl ?_
  refine gx_iconst (v := 1) hX dX4_runIfEager_6 rfl (by decide) ?_
  refine gx_icmp_ne (tgt := 15) hX dX4_runIfEager_7 (by decide) rfl (fun h7 => ?_) (fun h7 => ?_)
  · exact gx_vret hC dX4_runIfEager_15 (⟨gEq.rf, rfl, by unfold qeag; rw [if_neg (by rw [← hr1]; exact h7)]; exact hr⟩)
  · refine gx_aload_n hX 0 dX4_runIfEager_10 rfl rfl ?_
    refine gx_iconst (v := (-1)) hX dX4_runIfEager_11 rfl (by decide) ?_
    refine gx_callV (As := [.int (-1)]) (st := []) hC (c_X4_runThrough l Y mo σ r n hM hr B (-1) hB hI h4 (qcl_all _ hr3)) kX4_runThrough wm_RX4_109 rfl (gM0 hM) rfl rfl rfl rfl rfl dX4_runIfEager_12 rfl (gx_kv fun τ12 hq12 => ?_)
    exact gx_vret hC dX4_runIfEager_15 (⟨hq12.1, hq12.2.1, by unfold qeag; rw [if_pos (by rw [← hr1]; exact h7)]; exact hq12.2.2⟩)
