set_option maxRecDepth 100000 in
set_option maxHeartbeats 4000000 in
theorem c_X4_deriveDependencies (l : Launch) (Y : gL) (mo : Nat) (σ : gS) (r : Nat → Int32) (n : Nat) (hM : gLM Y mo) (hr : gRow Y mo σ r n) : gM l yX4_deriveDependencies cX4_deriveDependencies 4 none (gRm 4 87) Y [.ref mo] σ (gV fun τ => gEq Y [19, 21] σ τ ∧ (∀ c, c < n → τ.1 (gF Y mo 4) c = qdir (qg r n) c) ∧ (∀ c d, c < n → d < n → qt (τ.1 (gF Y mo 6) c) d = qall (qg r n) c d)) := by
  have hr1 := hr.1
  have hr2 := hr.2.1
  have hr3 := hr.2.2
  refine gM.of (by decide) rfl ?_
  intro p e s m args below meth c hC
  have hX := hC.1
  refine gx_iconst (v := 0) hX dX4_deriveDependencies_0 rfl (by decide) ?_
  refine gx_istore_n (lv' := [(1, .int 0), (0, .ref mo)]) hX dX4_deriveDependencies_1 rfl (by decide) rfl ?_
  have L2 : ∀ (k2 : Nat) (i : Nat) (τ : gS), n - i < k2 → (i ≤ n) → (gEq Y [19, 21] σ τ) → (∀ c, c < i → τ.1 (gF Y mo 4) c = qdir (qg r n) c) → (∀ c, c < i → τ.1 (gF Y mo 6) c = qdir (qg r n) c) → gG p l e (gRm 4 87) s m args below meth c Y (gV fun τ => gEq Y [19, 21] σ τ ∧ (∀ c, c < n → τ.1 (gF Y mo 4) c = qdir (qg r n) c) ∧ (∀ c d, c < n → d < n → qt (τ.1 (gF Y mo 6) c) d = qall (qg r n) c d)) τ 2 [(0, .ref mo), (1, .int (nI i))] [] := by
    intro k2
    induction k2 with
    | zero => intro i τ hk2; exact absurd hk2 (Nat.not_lt_zero _)
    | succ k2 ih2 =>
      intro i τ hk2 hi he hd ha
      have hrt := hr.eq hM he (by decide)
      refine gx_iload_n hX 1 dX4_deriveDependencies_2 rfl rfl ?_
      refine gx_aload_n hX 0 dX4_deriveDependencies_3 rfl rfl ?_
      refine gx_get hC 0 inlX4 wf_RX4_7 rfl (gM0 hM) rfl rfl rfl rfl dX4_deriveDependencies_4 rfl ?_
      refine gx_iconst (v := 0) hX dX4_deriveDependencies_7 rfl (by decide) ?_
      refine gx_iald (i := 0) hC (gM1 hM) rfl rfl (by omega) rfl dX4_deriveDependencies_8 rfl ?_
      refine gx_topi (b := (nI n)) (by rw [(hrt).1]; exact hr2) ?_
      refine gx_nat_ge (i := i) (j := n) (tgt := 87) hX dX4_deriveDependencies_9 (by decide) rfl rfl rfl (by omega) (by omega) (fun h9 => ?_) (fun h9 => ?_)
      · refine gx_iconst (v := 0) hX dX4_deriveDependencies_87 rfl (by decide) ?_
        refine gx_istore_n (lv' := [(1, .int 0), (0, .ref mo)]) hX dX4_deriveDependencies_88 rfl (by decide) rfl ?_
        have L89 : ∀ (k89 : Nat) (t : Nat) (τ : gS), n - t < k89 → (t ≤ n) → (gEq Y [19, 21] σ τ) → (∀ c, c < n → τ.1 (gF Y mo 4) c = qdir (qg r n) c) → (qSnd (qg r n) (τ.1 (gF Y mo 6))) → (qCmp (qg r n) (τ.1 (gF Y mo 6)) (qlim t 0 0)) → gG p l e (gRm 4 87) s m args below meth c Y (gV fun τ => gEq Y [19, 21] σ τ ∧ (∀ c, c < n → τ.1 (gF Y mo 4) c = qdir (qg r n) c) ∧ (∀ c d, c < n → d < n → qt (τ.1 (gF Y mo 6) c) d = qall (qg r n) c d)) τ 89 [(0, .ref mo), (1, .int (nI t))] [] := by
          intro k89
          induction k89 with
          | zero => intro t τ hk89; exact absurd hk89 (Nat.not_lt_zero _)
          | succ k89 ih89 =>
            intro t τ hk89 ht he hd hs hm
            have hrt := hr.eq hM he (by decide)
            refine gx_iload_n hX 1 dX4_deriveDependencies_89 rfl rfl ?_
            refine gx_aload_n hX 0 dX4_deriveDependencies_90 rfl rfl ?_
            refine gx_get hC 0 inlX4 wf_RX4_7 rfl (gM0 hM) rfl rfl rfl rfl dX4_deriveDependencies_91 rfl ?_
            refine gx_iconst (v := 0) hX dX4_deriveDependencies_94 rfl (by decide) ?_
            refine gx_iald (i := 0) hC (gM1 hM) rfl rfl (by omega) rfl dX4_deriveDependencies_95 rfl ?_
            refine gx_topi (b := (nI n)) (by rw [(hrt).1]; exact hr2) ?_
            refine gx_nat_ge (i := t) (j := n) (tgt := 174) hX dX4_deriveDependencies_96 (by decide) rfl rfl rfl (by omega) (by omega) (fun h96 => ?_) (fun h96 => ?_)
            · exact gx_vret hC dX4_deriveDependencies_174 (⟨he, hd, fun c d hc hd2 => qfin hs (by rw [show t = n by omega] at hm; exact hm) c d hc hd2⟩)
            · refine gx_iconst (v := 0) hX dX4_deriveDependencies_99 rfl (by decide) ?_
              refine gx_istore_n (lv' := [(2, .int 0), (0, .ref mo), (1, .int (nI t))]) hX dX4_deriveDependencies_100 rfl (by decide) rfl ?_
              have L101 : ∀ (k101 : Nat) (c1 : Nat) (υ : gS), n - c1 < k101 → (c1 ≤ n) → (gEq Y [19, 21] σ υ) → (∀ c, c < n → υ.1 (gF Y mo 4) c = qdir (qg r n) c) → (qSnd (qg r n) (υ.1 (gF Y mo 6))) → (qCmp (qg r n) (υ.1 (gF Y mo 6)) (qlim t c1 0)) → gG p l e (gRm 4 87) s m args below meth c Y (gV fun τ => gEq Y [19, 21] σ τ ∧ (∀ c, c < n → τ.1 (gF Y mo 4) c = qdir (qg r n) c) ∧ (∀ c d, c < n → d < n → qt (τ.1 (gF Y mo 6) c) d = qall (qg r n) c d)) υ 101 [(0, .ref mo), (1, .int (nI t)), (2, .int (nI c1))] [] := by
                intro k101
                induction k101 with
                | zero => intro c1 υ hk101; exact absurd hk101 (Nat.not_lt_zero _)
                | succ k101 ih101 =>
                  intro c1 υ hk101 hc heu hdu hsu hmu
                  have hru := hr.eq hM heu (by decide)
                  refine gx_iload_n hX 2 dX4_deriveDependencies_101 rfl rfl ?_
                  refine gx_aload_n hX 0 dX4_deriveDependencies_102 rfl rfl ?_
                  refine gx_get hC 0 inlX4 wf_RX4_7 rfl (gM0 hM) rfl rfl rfl rfl dX4_deriveDependencies_103 rfl ?_
                  refine gx_iconst (v := 0) hX dX4_deriveDependencies_106 rfl (by decide) ?_
                  refine gx_iald (i := 0) hC (gM1 hM) rfl rfl (by omega) rfl dX4_deriveDependencies_107 rfl ?_
                  refine gx_topi (b := (nI n)) (by rw [(hru).1]; exact hr2) ?_
                  refine gx_nat_ge (i := c1) (j := n) (tgt := 168) hX dX4_deriveDependencies_108 (by decide) rfl rfl rfl (by omega) (by omega) (fun h108 => ?_) (fun h108 => ?_)
                  · refine gx_iinc (w := (nI (t + 1))) (lv' := [(1, .int (nI (t + 1))), (0, .ref mo), (2, .int (nI c1))]) hX 1 dX4_deriveDependencies_168 rfl rfl (nI_add _ _) (by decide) rfl ?_
                    refine gx_goto (pc' := 89) hX dX4_deriveDependencies_171 (by decide) ?_
                    exact gx_sub [1, 0] rfl (ih89 (t + 1) _ (by omega) (by omega) heu hdu hsu (hmu.le (fun c hc => by rw [show c1 = n by omega]; exact qlim_turn hc)))
                  · refine gx_iconst (v := 0) hX dX4_deriveDependencies_111 rfl (by decide) ?_
                    refine gx_istore_n (lv' := [(3, .int 0), (0, .ref mo), (1, .int (nI t)), (2, .int (nI c1))]) hX dX4_deriveDependencies_112 rfl (by decide) rfl ?_
                    have L113 : ∀ (k113 : Nat) (d : Nat) (ω : gS), n - d < k113 → (d ≤ n) → (gEq Y [19, 21] σ ω) → (∀ c, c < n → ω.1 (gF Y mo 4) c = qdir (qg r n) c) → (qSnd (qg r n) (ω.1 (gF Y mo 6))) → (qCmp (qg r n) (ω.1 (gF Y mo 6)) (qlim t c1 d)) → gG p l e (gRm 4 87) s m args below meth c Y (gV fun τ => gEq Y [19, 21] σ τ ∧ (∀ c, c < n → τ.1 (gF Y mo 4) c = qdir (qg r n) c) ∧ (∀ c d, c < n → d < n → qt (τ.1 (gF Y mo 6) c) d = qall (qg r n) c d)) ω 113 [(0, .ref mo), (1, .int (nI t)), (2, .int (nI c1)), (3, .int (nI d))] [] := by
                      intro k113
                      induction k113 with
                      | zero => intro d ω hk113; exact absurd hk113 (Nat.not_lt_zero _)
                      | succ k113 ih113 =>
                        intro d ω hk113 hd3 heo hdo hso hmo
                        have hro := hr.eq hM heo (by decide)
                        refine gx_iload_n hX 3 dX4_deriveDependencies_113 rfl rfl ?_
                        refine gx_aload_n hX 0 dX4_deriveDependencies_114 rfl rfl ?_
                        refine gx_get hC 0 inlX4 wf_RX4_7 rfl (gM0 hM) rfl rfl rfl rfl dX4_deriveDependencies_115 rfl ?_
                        refine gx_iconst (v := 0) hX dX4_deriveDependencies_118 rfl (by decide) ?_
                        refine gx_iald (i := 0) hC (gM1 hM) rfl rfl (by omega) rfl dX4_deriveDependencies_119 rfl ?_
                        refine gx_topi (b := (nI n)) (by rw [(hro).1]; exact hr2) ?_
                        refine gx_nat_ge (i := d) (j := n) (tgt := 162) hX dX4_deriveDependencies_120 (by decide) rfl rfl rfl (by omega) (by omega) (fun h120 => ?_) (fun h120 => ?_)
                        · refine gx_iinc (w := (nI (c1 + 1))) (lv' := [(2, .int (nI (c1 + 1))), (0, .ref mo), (1, .int (nI t)), (3, .int (nI d))]) hX 2 dX4_deriveDependencies_162 rfl rfl (nI_add _ _) (by decide) rfl ?_
                          refine gx_goto (pc' := 101) hX dX4_deriveDependencies_165 (by decide) ?_
                          exact gx_sub [1, 2, 0] rfl (ih101 (c1 + 1) _ (by omega) (by omega) heo hdo hso (hmo.le (fun c hc => by rw [show d = n by omega]; exact qlim_row h96)))
                        · refine gx_aload_n hX 0 dX4_deriveDependencies_123 rfl rfl ?_
                          refine gx_get hC 6 inlX4 wf_RX4_25 rfl (gM0 hM) rfl rfl rfl rfl dX4_deriveDependencies_124 rfl ?_
                          refine gx_iload_n hX 2 dX4_deriveDependencies_127 rfl rfl ?_
                          refine gx_dup2 hX dX4_deriveDependencies_128 rfl rfl rfl ?_
                          refine gx_iald (i := c1) hC (gM6 hM) rfl rfl (by omega) rfl dX4_deriveDependencies_129 rfl ?_
                          refine gx_aload_n hX 0 dX4_deriveDependencies_130 rfl rfl ?_
                          refine gx_get hC 6 inlX4 wf_RX4_25 rfl (gM0 hM) rfl rfl rfl rfl dX4_deriveDependencies_131 rfl ?_
                          refine gx_iload_n hX 2 dX4_deriveDependencies_134 rfl rfl ?_
                          refine gx_iald (i := c1) hC (gM6 hM) rfl rfl (by omega) rfl dX4_deriveDependencies_135 rfl ?_
                          refine gx_iload_n hX 3 dX4_deriveDependencies_136 rfl rfl ?_
                          refine gx_ishr hX dX4_deriveDependencies_137 rfl ?_
                          refine gx_iconst (v := 1) hX dX4_deriveDependencies_138 rfl (by decide) ?_
                          refine gx_iand hX dX4_deriveDependencies_139 rfl ?_
                          refine gx_iconst (v := 1) hX dX4_deriveDependencies_140 rfl (by decide) ?_
                          refine gx_icmp_ne (tgt := 153) hX dX4_deriveDependencies_141 (by decide) rfl (fun h141 => ?_) (fun h141 => ?_)
                          · refine gx_iconst (v := 0) hX dX4_deriveDependencies_153 rfl (by decide) ?_
                            refine gx_ior hX dX4_deriveDependencies_154 rfl ?_
                            refine gx_topi (b := (ω.1 (gF Y mo 6) c1 ||| (if qt (ω.1 (gF Y mo 6) c1) d = true then ω.1 (gF Y mo 6) d else 0))) (by first | rw [if_pos (qt_iff.mp h141)] | rw [if_neg (fun q => h141 (qt_iff.mpr q))]) ?_
                            refine gx_iast (i := c1) hC (gM6 hM) rfl rfl rfl rfl (by omega) rfl dX4_deriveDependencies_155 rfl ?_
                            refine gx_iinc (w := (nI (d + 1))) (lv' := [(3, .int (nI (d + 1))), (0, .ref mo), (1, .int (nI t)), (2, .int (nI c1))]) hX 3 dX4_deriveDependencies_156 rfl rfl (nI_add _ _) (by decide) rfl ?_
                            refine gx_goto (pc' := 113) hX dX4_deriveDependencies_159 (by decide) ?_
                            have hq := qstep (g := qg r n) (B := ((uI ω (gF Y mo 6) c1 (ω.1 (gF Y mo 6) c1 ||| (if qt (ω.1 (gF Y mo 6) c1) d = true then ω.1 (gF Y mo 6) d else 0)))).1 (gF Y mo 6)) (t := t) (c := c1) (d := d) hr3 h96 h108 h120 (fun c' hc' hne => by simp [uI, hne]) (by simp [uI]) hso hmo
                            exact gx_sub [1, 2, 3, 0] rfl (ih113 (d + 1) _ (by omega) (by omega) (heo.put (gM6 hM) (by decide)) (fun c hc => by rw [uI_ne (gK_ne (gM4 hM) (gM6 hM) (by decide))]; exact hdo c hc) hq.1 hq.2)
                          · refine gx_aload_n hX 0 dX4_deriveDependencies_144 rfl rfl ?_
                            refine gx_get hC 6 inlX4 wf_RX4_25 rfl (gM0 hM) rfl rfl rfl rfl dX4_deriveDependencies_145 rfl ?_
                            refine gx_iload_n hX 3 dX4_deriveDependencies_148 rfl rfl ?_
                            refine gx_iald (i := d) hC (gM6 hM) rfl rfl (by omega) rfl dX4_deriveDependencies_149 rfl ?_
                            refine gx_goto (pc' := 154) hX dX4_deriveDependencies_150 (by decide) ?_
                            refine gx_ior hX dX4_deriveDependencies_154 rfl ?_
                            refine gx_topi (b := (ω.1 (gF Y mo 6) c1 ||| (if qt (ω.1 (gF Y mo 6) c1) d = true then ω.1 (gF Y mo 6) d else 0))) (by first | rw [if_pos (qt_iff.mp h141)] | rw [if_neg (fun q => h141 (qt_iff.mpr q))]) ?_
                            refine gx_iast (i := c1) hC (gM6 hM) rfl rfl rfl rfl (by omega) rfl dX4_deriveDependencies_155 rfl ?_
                            refine gx_iinc (w := (nI (d + 1))) (lv' := [(3, .int (nI (d + 1))), (0, .ref mo), (1, .int (nI t)), (2, .int (nI c1))]) hX 3 dX4_deriveDependencies_156 rfl rfl (nI_add _ _) (by decide) rfl ?_
                            refine gx_goto (pc' := 113) hX dX4_deriveDependencies_159 (by decide) ?_
                            have hq := qstep (g := qg r n) (B := ((uI ω (gF Y mo 6) c1 (ω.1 (gF Y mo 6) c1 ||| (if qt (ω.1 (gF Y mo 6) c1) d = true then ω.1 (gF Y mo 6) d else 0)))).1 (gF Y mo 6)) (t := t) (c := c1) (d := d) hr3 h96 h108 h120 (fun c' hc' hne => by simp [uI, hne]) (by simp [uI]) hso hmo
                            exact gx_sub [1, 2, 3, 0] rfl (ih113 (d + 1) _ (by omega) (by omega) (heo.put (gM6 hM) (by decide)) (fun c hc => by rw [uI_ne (gK_ne (gM4 hM) (gM6 hM) (by decide))]; exact hdo c hc) hq.1 hq.2)
                    exact gx_sub [1, 2, 3, 0] rfl (L113 (n + 1) 0 _ (by omega) (by omega) heu hdu hsu hmu)
              exact gx_sub [1, 2, 0] rfl (L101 (n + 1) 0 _ (by omega) (by omega) he hd hs hm)
        have hq0 := qini (g := qg r n) (A := τ.1 (gF Y mo 6)) (fun c hc => ha c (by have e : qn (qg r n) = n := rfl; omega))
        exact gx_sub [1, 0] rfl (L89 (n + 1) 0 τ (by omega) (by omega) he (fun c hc => hd c (by omega)) hq0.1 hq0.2)
      · refine gx_aload_n hX 0 dX4_deriveDependencies_12 rfl rfl ?_
        refine gx_aload_n hX 0 dX4_deriveDependencies_13 rfl rfl ?_
        refine gx_iload_n hX 1 dX4_deriveDependencies_14 rfl rfl ?_
        refine gx_iconst (v := 2) hX dX4_deriveDependencies_15 rfl (by decide) ?_
        refine gx_callV (As := [.int (nI i), .int 2]) (st := [.ref mo]) hC (c_X4_get l Y mo τ r i 2 hM hrt.1 (by omega)) kX4_get wm_RX4_50 rfl (gM0 hM) rfl rfl rfl rfl rfl dX4_deriveDependencies_16 rfl (gx_ki fun r16 τ16 hq16 => ?_)
        obtain ⟨rfl, rfl⟩ := hq16
        refine gx_callV (As := [.int (r (17 + 10 * i + 2))]) (st := []) hC (c_X4_source l Y mo τ r n hM hrt (r (17 + 10 * i + 2))) kX4_source wm_RX4_60 rfl (gM0 hM) rfl rfl rfl rfl rfl dX4_deriveDependencies_19 rfl (gx_ki fun r19 τ19 hq19 => ?_)
        obtain ⟨rfl, ⟨rfl, hb19⟩ | ⟨rfl, hb19⟩⟩ := hq19
        · refine gx_istore_n (lv' := [(2, .int (nI (qsrc (qg r n) (r (17 + 10 * i + 2))))), (0, .ref mo), (1, .int (nI i))]) hX dX4_deriveDependencies_22 rfl (by decide) rfl ?_
          refine gx_aload_n hX 1 dX4_deriveDependencies_23 rfl rfl ?_
          refine gx_aload_n hX 1 dX4_deriveDependencies_24 rfl rfl ?_
          refine gx_iload_n hX 2 dX4_deriveDependencies_25 rfl rfl ?_
          refine gx_iconst (v := 3) hX dX4_deriveDependencies_26 rfl (by decide) ?_
          refine gx_callV (As := [.int (nI i), .int 3]) (st := [.ref mo]) hC (c_X4_get l Y mo τ r i 3 hM hrt.1 (by omega)) kX4_get wm_RX4_50 rfl (gM0 hM) rfl rfl rfl rfl rfl dX4_deriveDependencies_27 rfl (gx_ki fun r27 τ27 hq27 => ?_)
          obtain ⟨rfl, rfl⟩ := hq27
          refine gx_callV (As := [.int (r (17 + 10 * i + 3))]) (st := []) hC (c_X4_source l Y mo τ r n hM hrt (r (17 + 10 * i + 3))) kX4_source wm_RX4_60 rfl (gM0 hM) rfl rfl rfl rfl rfl dX4_deriveDependencies_30 rfl (gx_ki fun r30 τ30 hq30 => ?_)
          obtain ⟨rfl, ⟨rfl, hb30⟩ | ⟨rfl, hb30⟩⟩ := hq30
          · refine gx_istore_n (lv' := [(3, .int (nI (qsrc (qg r n) (r (17 + 10 * i + 3))))), (2, .int (nI (qsrc (qg r n) (r (17 + 10 * i + 2))))), (0, .ref mo), (1, .int (nI i))]) hX dX4_deriveDependencies_33 rfl (by decide) rfl ?_
            refine gx_aload_n hX 2 dX4_deriveDependencies_34 rfl rfl ?_
            refine gx_get hC 4 inlX4 wf_RX4_19 rfl (gM0 hM) rfl rfl rfl rfl dX4_deriveDependencies_35 rfl ?_
            refine gx_iload_n hX 3 dX4_deriveDependencies_38 rfl rfl ?_
            refine gx_iload_n hX 1 dX4_deriveDependencies_39 rfl rfl ?_
            refine gx_sipush (v := (-10001)) hX dX4_deriveDependencies_40 rfl (by decide) ?_
            refine gx_icmp_ne_t (tgt := 50) hX dX4_deriveDependencies_43 (by decide) (nI_neg (by omega) (by decide)) ?_
            refine gx_iconst (v := 1) hX dX4_deriveDependencies_50 rfl (by decide) ?_
            refine gx_iload_n hX 1 dX4_deriveDependencies_51 rfl rfl ?_
            refine gx_ishl hX dX4_deriveDependencies_52 rfl ?_
            refine gx_iload_n hX 0 dX4_deriveDependencies_53 rfl rfl ?_
            refine gx_sipush (v := (-10001)) hX dX4_deriveDependencies_54 rfl (by decide) ?_
            refine gx_icmp_ne_t (tgt := 64) hX dX4_deriveDependencies_57 (by decide) (nI_neg (by omega) (by decide)) ?_
            refine gx_iconst (v := 1) hX dX4_deriveDependencies_64 rfl (by decide) ?_
            refine gx_iload_n hX 0 dX4_deriveDependencies_65 rfl rfl ?_
            refine gx_ishl hX dX4_deriveDependencies_66 rfl ?_
            refine gx_ior hX dX4_deriveDependencies_67 rfl ?_
            refine gx_topi (b := (qdir (qg r n) i)) (by show _ = qdo (qg r n) (r (17 + 10 * i + 2)) ||| qdo (qg r n) (r (17 + 10 * i + 3)); first | rw [qdo_yes hb19, qdo_yes hb30] | rw [qdo_yes hb19, qdo_no hb30] | rw [qdo_no hb19, qdo_yes hb30] | rw [qdo_no hb19, qdo_no hb30]) ?_
            refine gx_iast (i := i) hC (gM4 hM) rfl rfl rfl rfl (by omega) rfl dX4_deriveDependencies_68 rfl ?_
            refine gx_aload_n hX 2 dX4_deriveDependencies_69 rfl rfl ?_
            refine gx_get hC 6 inlX4 wf_RX4_25 rfl (gM0 hM) rfl rfl rfl rfl dX4_deriveDependencies_70 rfl ?_
            refine gx_iload_n hX 3 dX4_deriveDependencies_73 rfl rfl ?_
            refine gx_aload_n hX 2 dX4_deriveDependencies_74 rfl rfl ?_
            refine gx_get hC 4 inlX4 wf_RX4_19 rfl (gM0 hM) rfl rfl rfl rfl dX4_deriveDependencies_75 rfl ?_
            refine gx_iload_n hX 3 dX4_deriveDependencies_78 rfl rfl ?_
            refine gx_iald (i := i) hC (gM4 hM) rfl rfl (by omega) rfl dX4_deriveDependencies_79 rfl ?_
            refine gx_topi (b := (qdir (qg r n) i)) (by simp [uI]) ?_
            refine gx_iast (i := i) hC (gM6 hM) rfl rfl rfl rfl (by omega) rfl dX4_deriveDependencies_80 rfl ?_
            refine gx_iinc (w := (nI (i + 1))) (lv' := [(1, .int (nI (i + 1))), (3, .int (nI (qsrc (qg r n) (r (17 + 10 * i + 3))))), (2, .int (nI (qsrc (qg r n) (r (17 + 10 * i + 2))))), (0, .ref mo)]) hX 3 dX4_deriveDependencies_81 rfl rfl (nI_add _ _) (by decide) rfl ?_
            refine gx_goto (pc' := 2) hX dX4_deriveDependencies_84 (by decide) ?_
            exact gx_sub [3, 0] rfl (ih2 (i + 1) _ (by omega) (by omega) ((he.put (gM4 hM) (by decide)).put (gM6 hM) (by decide)) (fun c hc => by rw [uI_ne (gK_ne (gM4 hM) (gM6 hM) (by decide))]; exact uI_rng hd rfl c hc) (fun c hc => uI_rng (fun c hc => by rw [uI_ne (gK_ne (gM4 hM) (gM6 hM) (by decide)).symm]; exact ha c hc) rfl c hc))
          · refine gx_istore_n (lv' := [(3, .int (-10001)), (2, .int (nI (qsrc (qg r n) (r (17 + 10 * i + 2))))), (0, .ref mo), (1, .int (nI i))]) hX dX4_deriveDependencies_33 rfl (by decide) rfl ?_
            refine gx_aload_n hX 2 dX4_deriveDependencies_34 rfl rfl ?_
            refine gx_get hC 4 inlX4 wf_RX4_19 rfl (gM0 hM) rfl rfl rfl rfl dX4_deriveDependencies_35 rfl ?_
            refine gx_iload_n hX 3 dX4_deriveDependencies_38 rfl rfl ?_
            refine gx_iload_n hX 1 dX4_deriveDependencies_39 rfl rfl ?_
            refine gx_sipush (v := (-10001)) hX dX4_deriveDependencies_40 rfl (by decide) ?_
            refine gx_icmp_ne_t (tgt := 50) hX dX4_deriveDependencies_43 (by decide) (nI_neg (by omega) (by decide)) ?_
            refine gx_iconst (v := 1) hX dX4_deriveDependencies_50 rfl (by decide) ?_
            refine gx_iload_n hX 1 dX4_deriveDependencies_51 rfl rfl ?_
            refine gx_ishl hX dX4_deriveDependencies_52 rfl ?_
            refine gx_iload_n hX 0 dX4_deriveDependencies_53 rfl rfl ?_
            refine gx_sipush (v := (-10001)) hX dX4_deriveDependencies_54 rfl (by decide) ?_
            refine gx_icmp_ne_f (tgt := 64) hX dX4_deriveDependencies_57 (by decide) rfl (by decide) ?_
            refine gx_iconst (v := 0) hX dX4_deriveDependencies_60 rfl (by decide) ?_
            refine gx_goto (pc' := 67) hX dX4_deriveDependencies_61 (by decide) ?_
            refine gx_ior hX dX4_deriveDependencies_67 rfl ?_
            refine gx_topi (b := (qdir (qg r n) i)) (by show _ = qdo (qg r n) (r (17 + 10 * i + 2)) ||| qdo (qg r n) (r (17 + 10 * i + 3)); first | rw [qdo_yes hb19, qdo_yes hb30] | rw [qdo_yes hb19, qdo_no hb30] | rw [qdo_no hb19, qdo_yes hb30] | rw [qdo_no hb19, qdo_no hb30]) ?_
            refine gx_iast (i := i) hC (gM4 hM) rfl rfl rfl rfl (by omega) rfl dX4_deriveDependencies_68 rfl ?_
            refine gx_aload_n hX 2 dX4_deriveDependencies_69 rfl rfl ?_
            refine gx_get hC 6 inlX4 wf_RX4_25 rfl (gM0 hM) rfl rfl rfl rfl dX4_deriveDependencies_70 rfl ?_
            refine gx_iload_n hX 3 dX4_deriveDependencies_73 rfl rfl ?_
            refine gx_aload_n hX 2 dX4_deriveDependencies_74 rfl rfl ?_
            refine gx_get hC 4 inlX4 wf_RX4_19 rfl (gM0 hM) rfl rfl rfl rfl dX4_deriveDependencies_75 rfl ?_
            refine gx_iload_n hX 3 dX4_deriveDependencies_78 rfl rfl ?_
            refine gx_iald (i := i) hC (gM4 hM) rfl rfl (by omega) rfl dX4_deriveDependencies_79 rfl ?_
            refine gx_topi (b := (qdir (qg r n) i)) (by simp [uI]) ?_
            refine gx_iast (i := i) hC (gM6 hM) rfl rfl rfl rfl (by omega) rfl dX4_deriveDependencies_80 rfl ?_
            refine gx_iinc (w := (nI (i + 1))) (lv' := [(1, .int (nI (i + 1))), (3, .int (-10001)), (2, .int (nI (qsrc (qg r n) (r (17 + 10 * i + 2))))), (0, .ref mo)]) hX 3 dX4_deriveDependencies_81 rfl rfl (nI_add _ _) (by decide) rfl ?_
            refine gx_goto (pc' := 2) hX dX4_deriveDependencies_84 (by decide) ?_
            exact gx_sub [3, 0] rfl (ih2 (i + 1) _ (by omega) (by omega) ((he.put (gM4 hM) (by decide)).put (gM6 hM) (by decide)) (fun c hc => by rw [uI_ne (gK_ne (gM4 hM) (gM6 hM) (by decide))]; exact uI_rng hd rfl c hc) (fun c hc => uI_rng (fun c hc => by rw [uI_ne (gK_ne (gM4 hM) (gM6 hM) (by decide)).symm]; exact ha c hc) rfl c hc))
        · refine gx_istore_n (lv' := [(2, .int (-10001)), (0, .ref mo), (1, .int (nI i))]) hX dX4_deriveDependencies_22 rfl (by decide) rfl ?_
          refine gx_aload_n hX 1 dX4_deriveDependencies_23 rfl rfl ?_
          refine gx_aload_n hX 1 dX4_deriveDependencies_24 rfl rfl ?_
          refine gx_iload_n hX 2 dX4_deriveDependencies_25 rfl rfl ?_
          refine gx_iconst (v := 3) hX dX4_deriveDependencies_26 rfl (by decide) ?_
          refine gx_callV (As := [.int (nI i), .int 3]) (st := [.ref mo]) hC (c_X4_get l Y mo τ r i 3 hM hrt.1 (by omega)) kX4_get wm_RX4_50 rfl (gM0 hM) rfl rfl rfl rfl rfl dX4_deriveDependencies_27 rfl (gx_ki fun r27 τ27 hq27 => ?_)
          obtain ⟨rfl, rfl⟩ := hq27
          refine gx_callV (As := [.int (r (17 + 10 * i + 3))]) (st := []) hC (c_X4_source l Y mo τ r n hM hrt (r (17 + 10 * i + 3))) kX4_source wm_RX4_60 rfl (gM0 hM) rfl rfl rfl rfl rfl dX4_deriveDependencies_30 rfl (gx_ki fun r30 τ30 hq30 => ?_)
          obtain ⟨rfl, ⟨rfl, hb30⟩ | ⟨rfl, hb30⟩⟩ := hq30
          · refine gx_istore_n (lv' := [(3, .int (nI (qsrc (qg r n) (r (17 + 10 * i + 3))))), (2, .int (-10001)), (0, .ref mo), (1, .int (nI i))]) hX dX4_deriveDependencies_33 rfl (by decide) rfl ?_
            refine gx_aload_n hX 2 dX4_deriveDependencies_34 rfl rfl ?_
            refine gx_get hC 4 inlX4 wf_RX4_19 rfl (gM0 hM) rfl rfl rfl rfl dX4_deriveDependencies_35 rfl ?_
            refine gx_iload_n hX 3 dX4_deriveDependencies_38 rfl rfl ?_
            refine gx_iload_n hX 1 dX4_deriveDependencies_39 rfl rfl ?_
            refine gx_sipush (v := (-10001)) hX dX4_deriveDependencies_40 rfl (by decide) ?_
            refine gx_icmp_ne_f (tgt := 50) hX dX4_deriveDependencies_43 (by decide) rfl (by decide) ?_
            refine gx_iconst (v := 0) hX dX4_deriveDependencies_46 rfl (by decide) ?_
            refine gx_goto (pc' := 53) hX dX4_deriveDependencies_47 (by decide) ?_
            refine gx_iload_n hX 0 dX4_deriveDependencies_53 rfl rfl ?_
            refine gx_sipush (v := (-10001)) hX dX4_deriveDependencies_54 rfl (by decide) ?_
            refine gx_icmp_ne_t (tgt := 64) hX dX4_deriveDependencies_57 (by decide) (nI_neg (by omega) (by decide)) ?_
            refine gx_iconst (v := 1) hX dX4_deriveDependencies_64 rfl (by decide) ?_
            refine gx_iload_n hX 0 dX4_deriveDependencies_65 rfl rfl ?_
            refine gx_ishl hX dX4_deriveDependencies_66 rfl ?_
            refine gx_ior hX dX4_deriveDependencies_67 rfl ?_
            refine gx_topi (b := (qdir (qg r n) i)) (by show _ = qdo (qg r n) (r (17 + 10 * i + 2)) ||| qdo (qg r n) (r (17 + 10 * i + 3)); first | rw [qdo_yes hb19, qdo_yes hb30] | rw [qdo_yes hb19, qdo_no hb30] | rw [qdo_no hb19, qdo_yes hb30] | rw [qdo_no hb19, qdo_no hb30]) ?_
            refine gx_iast (i := i) hC (gM4 hM) rfl rfl rfl rfl (by omega) rfl dX4_deriveDependencies_68 rfl ?_
            refine gx_aload_n hX 2 dX4_deriveDependencies_69 rfl rfl ?_
            refine gx_get hC 6 inlX4 wf_RX4_25 rfl (gM0 hM) rfl rfl rfl rfl dX4_deriveDependencies_70 rfl ?_
            refine gx_iload_n hX 3 dX4_deriveDependencies_73 rfl rfl ?_
            refine gx_aload_n hX 2 dX4_deriveDependencies_74 rfl rfl ?_
            refine gx_get hC 4 inlX4 wf_RX4_19 rfl (gM0 hM) rfl rfl rfl rfl dX4_deriveDependencies_75 rfl ?_
            refine gx_iload_n hX 3 dX4_deriveDependencies_78 rfl rfl ?_
            refine gx_iald (i := i) hC (gM4 hM) rfl rfl (by omega) rfl dX4_deriveDependencies_79 rfl ?_
            refine gx_topi (b := (qdir (qg r n) i)) (by simp [uI]) ?_
            refine gx_iast (i := i) hC (gM6 hM) rfl rfl rfl rfl (by omega) rfl dX4_deriveDependencies_80 rfl ?_
            refine gx_iinc (w := (nI (i + 1))) (lv' := [(1, .int (nI (i + 1))), (3, .int (nI (qsrc (qg r n) (r (17 + 10 * i + 3))))), (2, .int (-10001)), (0, .ref mo)]) hX 3 dX4_deriveDependencies_81 rfl rfl (nI_add _ _) (by decide) rfl ?_
            refine gx_goto (pc' := 2) hX dX4_deriveDependencies_84 (by decide) ?_
            exact gx_sub [3, 0] rfl (ih2 (i + 1) _ (by omega) (by omega) ((he.put (gM4 hM) (by decide)).put (gM6 hM) (by decide)) (fun c hc => by rw [uI_ne (gK_ne (gM4 hM) (gM6 hM) (by decide))]; exact uI_rng hd rfl c hc) (fun c hc => uI_rng (fun c hc => by rw [uI_ne (gK_ne (gM4 hM) (gM6 hM) (by decide)).symm]; exact ha c hc) rfl c hc))
          · refine gx_istore_n (lv' := [(3, .int (-10001)), (2, .int (-10001)), (0, .ref mo), (1, .int (nI i))]) hX dX4_deriveDependencies_33 rfl (by decide) rfl ?_
            refine gx_aload_n hX 2 dX4_deriveDependencies_34 rfl rfl ?_
            refine gx_get hC 4 inlX4 wf_RX4_19 rfl (gM0 hM) rfl rfl rfl rfl dX4_deriveDependencies_35 rfl ?_
            refine gx_iload_n hX 3 dX4_deriveDependencies_38 rfl rfl ?_
            refine gx_iload_n hX 1 dX4_deriveDependencies_39 rfl rfl ?_
            refine gx_sipush (v := (-10001)) hX dX4_deriveDependencies_40 rfl (by decide) ?_
            refine gx_icmp_ne_f (tgt := 50) hX dX4_deriveDependencies_43 (by decide) rfl (by decide) ?_
            refine gx_iconst (v := 0) hX dX4_deriveDependencies_46 rfl (by decide) ?_
            refine gx_goto (pc' := 53) hX dX4_deriveDependencies_47 (by decide) ?_
            refine gx_iload_n hX 0 dX4_deriveDependencies_53 rfl rfl ?_
            refine gx_sipush (v := (-10001)) hX dX4_deriveDependencies_54 rfl (by decide) ?_
            refine gx_icmp_ne_f (tgt := 64) hX dX4_deriveDependencies_57 (by decide) rfl (by decide) ?_
            refine gx_iconst (v := 0) hX dX4_deriveDependencies_60 rfl (by decide) ?_
            refine gx_goto (pc' := 67) hX dX4_deriveDependencies_61 (by decide) ?_
            refine gx_ior hX dX4_deriveDependencies_67 rfl ?_
            refine gx_topi (b := (qdir (qg r n) i)) (by show _ = qdo (qg r n) (r (17 + 10 * i + 2)) ||| qdo (qg r n) (r (17 + 10 * i + 3)); first | rw [qdo_yes hb19, qdo_yes hb30] | rw [qdo_yes hb19, qdo_no hb30] | rw [qdo_no hb19, qdo_yes hb30] | rw [qdo_no hb19, qdo_no hb30]) ?_
            refine gx_iast (i := i) hC (gM4 hM) rfl rfl rfl rfl (by omega) rfl dX4_deriveDependencies_68 rfl ?_
            refine gx_aload_n hX 2 dX4_deriveDependencies_69 rfl rfl ?_
            refine gx_get hC 6 inlX4 wf_RX4_25 rfl (gM0 hM) rfl rfl rfl rfl dX4_deriveDependencies_70 rfl ?_
            refine gx_iload_n hX 3 dX4_deriveDependencies_73 rfl rfl ?_
            refine gx_aload_n hX 2 dX4_deriveDependencies_74 rfl rfl ?_
            refine gx_get hC 4 inlX4 wf_RX4_19 rfl (gM0 hM) rfl rfl rfl rfl dX4_deriveDependencies_75 rfl ?_
            refine gx_iload_n hX 3 dX4_deriveDependencies_78 rfl rfl ?_
            refine gx_iald (i := i) hC (gM4 hM) rfl rfl (by omega) rfl dX4_deriveDependencies_79 rfl ?_
            refine gx_topi (b := (qdir (qg r n) i)) (by simp [uI]) ?_
            refine gx_iast (i := i) hC (gM6 hM) rfl rfl rfl rfl (by omega) rfl dX4_deriveDependencies_80 rfl ?_
            refine gx_iinc (w := (nI (i + 1))) (lv' := [(1, .int (nI (i + 1))), (3, .int (-10001)), (2, .int (-10001)), (0, .ref mo)]) hX 3 dX4_deriveDependencies_81 rfl rfl (nI_add _ _) (by decide) rfl ?_
            refine gx_goto (pc' := 2) hX dX4_deriveDependencies_84 (by decide) ?_
            exact gx_sub [3, 0] rfl (ih2 (i + 1) _ (by omega) (by omega) ((he.put (gM4 hM) (by decide)).put (gM6 hM) (by decide)) (fun c hc => by rw [uI_ne (gK_ne (gM4 hM) (gM6 hM) (by decide))]; exact uI_rng hd rfl c hc) (fun c hc => uI_rng (fun c hc => by rw [uI_ne (gK_ne (gM4 hM) (gM6 hM) (by decide)).symm]; exact ha c hc) rfl c hc))
  exact gx_sub [1, 0] rfl (L2 (n + 1) 0 σ (by omega) (by omega) gEq.rf (fun c hc => absurd hc (Nat.not_lt_zero c)) (fun c hc => absurd hc (Nat.not_lt_zero c)))

set_option maxRecDepth 100000 in
set_option maxHeartbeats 4000000 in
theorem c_X4_deriveErrors (l : Launch) (Y : gL) (mo : Nat) (σ : gS) (r : Nat → Int32) (n : Nat) (hM : gLM Y mo) (hr : gRow Y mo σ r n) (hal : ∀ c d, c < n → d < n → qt (σ.1 (gF Y mo 6) c) d = qall (qg r n) c d) : gM l yX4_deriveErrors cX4_deriveErrors 4 none (gRm 4 89) Y [.ref mo] σ (gV fun τ => gEq Y [20] σ τ ∧ (∀ c, c < n → τ.1 (gF Y mo 5) c = qw (qg r n) c)) := by
  have hr1 := hr.1
  have hr2 := hr.2.1
  have hr3 := hr.2.2
  refine gM.of (by decide) rfl ?_
  intro p e s m args below meth c hC
  have hX := hC.1
  refine gx_iconst (v := 0) hX dX4_deriveErrors_0 rfl (by decide) ?_
  refine gx_istore_n (lv' := [(1, .int 0), (0, .ref mo)]) hX dX4_deriveErrors_1 rfl (by decide) rfl ?_
  have L2 : ∀ (k2 : Nat) (i : Nat) (τ : gS), n - i < k2 → (i ≤ n) → (gEq Y [20] σ τ) → (∀ c, c < i → τ.1 (gF Y mo 5) c = qown (qg r n) c) → gG p l e (gRm 4 89) s m args below meth c Y (gV fun τ => gEq Y [20] σ τ ∧ (∀ c, c < n → τ.1 (gF Y mo 5) c = qw (qg r n) c)) τ 2 [(0, .ref mo), (1, .int (nI i))] [] := by
    intro k2
    induction k2 with
    | zero => intro i τ hk2; exact absurd hk2 (Nat.not_lt_zero _)
    | succ k2 ih2 =>
      intro i τ hk2 hi he hd
      have hrt := hr.eq hM he (by decide)
      have hal2 : ∀ c d, c < n → d < n → qt (τ.1 (gF Y mo 6) c) d = qall (qg r n) c d := by rw [he.at (gM6 hM) (by decide)]; exact hal
      refine gx_iload_n hX 1 dX4_deriveErrors_2 rfl rfl ?_
      refine gx_aload_n hX 0 dX4_deriveErrors_3 rfl rfl ?_
      refine gx_get hC 0 inlX4 wf_RX4_7 rfl (gM0 hM) rfl rfl rfl rfl dX4_deriveErrors_4 rfl ?_
      refine gx_iconst (v := 0) hX dX4_deriveErrors_7 rfl (by decide) ?_
      refine gx_iald (i := 0) hC (gM1 hM) rfl rfl (by omega) rfl dX4_deriveErrors_8 rfl ?_
      refine gx_topi (b := (nI n)) (by rw [(hrt).1]; exact hr2) ?_
      refine gx_nat_ge (i := i) (j := n) (tgt := 113) hX dX4_deriveErrors_9 (by decide) rfl rfl rfl (by omega) (by omega) (fun h9 => ?_) (fun h9 => ?_)
      · refine gx_iconst (v := 0) hX dX4_deriveErrors_113 rfl (by decide) ?_
        refine gx_istore_n (lv' := [(1, .int 0), (0, .ref mo)]) hX dX4_deriveErrors_114 rfl (by decide) rfl ?_
        have L115 : ∀ (k115 : Nat) (t : Nat) (τ : gS), n - t < k115 → (t ≤ n) → (gEq Y [20] σ τ) → (∀ c, c < n → τ.1 (gF Y mo 5) c = (qit (fun _ w => qit (qst (qg r n)) n w) t (qw0 (qg r n))) c) → gG p l e (gRm 4 89) s m args below meth c Y (gV fun τ => gEq Y [20] σ τ ∧ (∀ c, c < n → τ.1 (gF Y mo 5) c = qw (qg r n) c)) τ 115 [(0, .ref mo), (1, .int (nI t))] [] := by
          intro k115
          induction k115 with
          | zero => intro t τ hk115; exact absurd hk115 (Nat.not_lt_zero _)
          | succ k115 ih115 =>
            intro t τ hk115 ht he hd
            have hrt := hr.eq hM he (by decide)
            refine gx_iload_n hX 1 dX4_deriveErrors_115 rfl rfl ?_
            refine gx_aload_n hX 0 dX4_deriveErrors_116 rfl rfl ?_
            refine gx_get hC 0 inlX4 wf_RX4_7 rfl (gM0 hM) rfl rfl rfl rfl dX4_deriveErrors_117 rfl ?_
            refine gx_iconst (v := 0) hX dX4_deriveErrors_120 rfl (by decide) ?_
            refine gx_iald (i := 0) hC (gM1 hM) rfl rfl (by omega) rfl dX4_deriveErrors_121 rfl ?_
            refine gx_topi (b := (nI n)) (by rw [(hrt).1]; exact hr2) ?_
            refine gx_nat_ge (i := t) (j := n) (tgt := 191) hX dX4_deriveErrors_122 (by decide) rfl rfl rfl (by omega) (by omega) (fun h122 => ?_) (fun h122 => ?_)
            · exact gx_vret hC dX4_deriveErrors_191 (⟨he, fun c hc => by rw [hd c hc, show t = n by omega]; rfl⟩)
            · refine gx_iconst (v := 0) hX dX4_deriveErrors_125 rfl (by decide) ?_
              refine gx_istore_n (lv' := [(2, .int 0), (0, .ref mo), (1, .int (nI t))]) hX dX4_deriveErrors_126 rfl (by decide) rfl ?_
              have L127 : ∀ (k127 : Nat) (c1 : Nat) (υ : gS) (w : Nat → Int32), n - c1 < k127 → (c1 ≤ n) → (gEq Y [20] σ υ) → (w = qit (qst (qg r n)) c1 (qit (fun _ w => qit (qst (qg r n)) n w) t (qw0 (qg r n)))) → (∀ c, c < n → υ.1 (gF Y mo 5) c = w c) → gG p l e (gRm 4 89) s m args below meth c Y (gV fun τ => gEq Y [20] σ τ ∧ (∀ c, c < n → τ.1 (gF Y mo 5) c = qw (qg r n) c)) υ 127 [(0, .ref mo), (1, .int (nI t)), (2, .int (nI c1))] [] := by
                intro k127
                induction k127 with
                | zero => intro c1 υ w hk127; exact absurd hk127 (Nat.not_lt_zero _)
                | succ k127 ih127 =>
                  intro c1 υ w hk127 hc1 heu hwe hw
                  have hru := hr.eq hM heu (by decide)
                  refine gx_iload_n hX 2 dX4_deriveErrors_127 rfl rfl ?_
                  refine gx_aload_n hX 0 dX4_deriveErrors_128 rfl rfl ?_
                  refine gx_get hC 0 inlX4 wf_RX4_7 rfl (gM0 hM) rfl rfl rfl rfl dX4_deriveErrors_129 rfl ?_
                  refine gx_iconst (v := 0) hX dX4_deriveErrors_132 rfl (by decide) ?_
                  refine gx_iald (i := 0) hC (gM1 hM) rfl rfl (by omega) rfl dX4_deriveErrors_133 rfl ?_
                  refine gx_topi (b := (nI n)) (by rw [(hru).1]; exact hr2) ?_
                  refine gx_nat_ge (i := c1) (j := n) (tgt := 185) hX dX4_deriveErrors_134 (by decide) rfl rfl rfl (by omega) (by omega) (fun h134 => ?_) (fun h134 => ?_)
                  · refine gx_iinc (w := (nI (t + 1))) (lv' := [(1, .int (nI (t + 1))), (0, .ref mo), (2, .int (nI c1))]) hX 1 dX4_deriveErrors_185 rfl rfl (nI_add _ _) (by decide) rfl ?_
                    refine gx_goto (pc' := 115) hX dX4_deriveErrors_188 (by decide) ?_
                    exact gx_sub [1, 0] rfl (ih115 (t + 1) _ (by omega) (by omega) heu (fun c hc => by show _ = qit (qst (qg r n)) n (qit (fun _ w => qit (qst (qg r n)) n w) t (qw0 (qg r n))) c; rw [hw c hc, hwe, show c1 = n by omega]))
                  · refine gx_aload_n hX 0 dX4_deriveErrors_137 rfl rfl ?_
                    refine gx_get hC 5 inlX4 wf_RX4_22 rfl (gM0 hM) rfl rfl rfl rfl dX4_deriveErrors_138 rfl ?_
                    refine gx_iload_n hX 2 dX4_deriveErrors_141 rfl rfl ?_
                    refine gx_iald (i := c1) hC (gM5 hM) rfl rfl (by omega) rfl dX4_deriveErrors_142 rfl ?_
                    refine gx_if_ne (tgt := 179) hX dX4_deriveErrors_143 (by decide) rfl (fun h143 => ?_) (fun h143 => ?_)
                    · refine gx_iinc (w := (nI (c1 + 1))) (lv' := [(2, .int (nI (c1 + 1))), (0, .ref mo), (1, .int (nI t))]) hX 2 dX4_deriveErrors_179 rfl rfl (nI_add _ _) (by decide) rfl ?_
                      refine gx_goto (pc' := 127) hX dX4_deriveErrors_182 (by decide) ?_
                      exact gx_sub [1, 2, 0] rfl (ih127 (c1 + 1) _ (qst (qg r n) c1 w) (by omega) (by omega) heu (by rw [hwe]; rfl) (fun c hc => by first | (rw [qst_no (Or.inl (by rw [← hw c1 h134]; exact h143))]; exact hw c hc) | (rw [qst_no (Or.inr ⟨hb153, hb166⟩)]; exact hw c hc)))
                    · refine gx_aload_n hX 0 dX4_deriveErrors_146 rfl rfl ?_
                      refine gx_aload_n hX 0 dX4_deriveErrors_147 rfl rfl ?_
                      refine gx_iload_n hX 2 dX4_deriveErrors_148 rfl rfl ?_
                      refine gx_iconst (v := 2) hX dX4_deriveErrors_149 rfl (by decide) ?_
                      refine gx_callV (As := [.int (nI c1), .int 2]) (st := [.ref mo]) hC (c_X4_get l Y mo υ r c1 2 hM hru.1 (by omega)) kX4_get wm_RX4_50 rfl (gM0 hM) rfl rfl rfl rfl rfl dX4_deriveErrors_150 rfl (gx_ki fun r150 τ150 hq150 => ?_)
                      obtain ⟨rfl, rfl⟩ := hq150
                      refine gx_callV (As := [.int (r (17 + 10 * c1 + 2))]) (st := []) hC (c_X4_isBad l Y mo υ r n hM hru w hw (r (17 + 10 * c1 + 2))) kX4_isBad wm_RX4_67 rfl (gM0 hM) rfl rfl rfl rfl rfl dX4_deriveErrors_153 rfl (gx_ki fun r153 τ153 hq153 => ?_)
                      obtain ⟨rfl, ⟨rfl, hb153⟩ | ⟨rfl, hb153⟩⟩ := hq153
                      · refine gx_if_ne_t (tgt := 172) hX dX4_deriveErrors_156 (by decide) (by decide) ?_
                        refine gx_aload_n hX 0 dX4_deriveErrors_172 rfl rfl ?_
                        refine gx_get hC 5 inlX4 wf_RX4_22 rfl (gM0 hM) rfl rfl rfl rfl dX4_deriveErrors_173 rfl ?_
                        refine gx_iload_n hX 2 dX4_deriveErrors_176 rfl rfl ?_
                        refine gx_iconst (v := 5) hX dX4_deriveErrors_177 rfl (by decide) ?_
                        refine gx_iast (i := c1) hC (gM5 hM) rfl rfl rfl rfl (by omega) rfl dX4_deriveErrors_178 rfl ?_
                        refine gx_iinc (w := (nI (c1 + 1))) (lv' := [(2, .int (nI (c1 + 1))), (0, .ref mo), (1, .int (nI t))]) hX 2 dX4_deriveErrors_179 rfl rfl (nI_add _ _) (by decide) rfl ?_
                        refine gx_goto (pc' := 127) hX dX4_deriveErrors_182 (by decide) ?_
                        exact gx_sub [1, 2, 0] rfl (ih127 (c1 + 1) _ (qst (qg r n) c1 w) (by omega) (by omega) (heu.put (gM5 hM) (by decide)) (by rw [hwe]; rfl) (fun c hc => by rw [qst_yes (by rw [← hw c1 h134]; exact h143) (by first | exact Or.inl hb153 | exact Or.inr hb166)]; exact uI_qup hw c hc))
                      · refine gx_if_ne_f (tgt := 172) hX dX4_deriveErrors_156 (by decide) rfl (by decide) ?_
                        refine gx_aload_n hX 0 dX4_deriveErrors_159 rfl rfl ?_
                        refine gx_aload_n hX 0 dX4_deriveErrors_160 rfl rfl ?_
                        refine gx_iload_n hX 2 dX4_deriveErrors_161 rfl rfl ?_
                        refine gx_iconst (v := 3) hX dX4_deriveErrors_162 rfl (by decide) ?_
                        refine gx_callV (As := [.int (nI c1), .int 3]) (st := [.ref mo]) hC (c_X4_get l Y mo υ r c1 3 hM hru.1 (by omega)) kX4_get wm_RX4_50 rfl (gM0 hM) rfl rfl rfl rfl rfl dX4_deriveErrors_163 rfl (gx_ki fun r163 τ163 hq163 => ?_)
                        obtain ⟨rfl, rfl⟩ := hq163
                        refine gx_callV (As := [.int (r (17 + 10 * c1 + 3))]) (st := []) hC (c_X4_isBad l Y mo υ r n hM hru w hw (r (17 + 10 * c1 + 3))) kX4_isBad wm_RX4_67 rfl (gM0 hM) rfl rfl rfl rfl rfl dX4_deriveErrors_166 rfl (gx_ki fun r166 τ166 hq166 => ?_)
                        obtain ⟨rfl, ⟨rfl, hb166⟩ | ⟨rfl, hb166⟩⟩ := hq166
                        · refine gx_if_eq_f (tgt := 179) hX dX4_deriveErrors_169 (by decide) rfl (by decide) ?_
                          refine gx_aload_n hX 0 dX4_deriveErrors_172 rfl rfl ?_
                          refine gx_get hC 5 inlX4 wf_RX4_22 rfl (gM0 hM) rfl rfl rfl rfl dX4_deriveErrors_173 rfl ?_
                          refine gx_iload_n hX 2 dX4_deriveErrors_176 rfl rfl ?_
                          refine gx_iconst (v := 5) hX dX4_deriveErrors_177 rfl (by decide) ?_
                          refine gx_iast (i := c1) hC (gM5 hM) rfl rfl rfl rfl (by omega) rfl dX4_deriveErrors_178 rfl ?_
                          refine gx_iinc (w := (nI (c1 + 1))) (lv' := [(2, .int (nI (c1 + 1))), (0, .ref mo), (1, .int (nI t))]) hX 2 dX4_deriveErrors_179 rfl rfl (nI_add _ _) (by decide) rfl ?_
                          refine gx_goto (pc' := 127) hX dX4_deriveErrors_182 (by decide) ?_
                          exact gx_sub [1, 2, 0] rfl (ih127 (c1 + 1) _ (qst (qg r n) c1 w) (by omega) (by omega) (heu.put (gM5 hM) (by decide)) (by rw [hwe]; rfl) (fun c hc => by rw [qst_yes (by rw [← hw c1 h134]; exact h143) (by first | exact Or.inl hb153 | exact Or.inr hb166)]; exact uI_qup hw c hc))
                        · refine gx_if_eq_t (tgt := 179) hX dX4_deriveErrors_169 (by decide) (by decide) ?_
                          refine gx_iinc (w := (nI (c1 + 1))) (lv' := [(2, .int (nI (c1 + 1))), (0, .ref mo), (1, .int (nI t))]) hX 2 dX4_deriveErrors_179 rfl rfl (nI_add _ _) (by decide) rfl ?_
                          refine gx_goto (pc' := 127) hX dX4_deriveErrors_182 (by decide) ?_
                          exact gx_sub [1, 2, 0] rfl (ih127 (c1 + 1) _ (qst (qg r n) c1 w) (by omega) (by omega) heu (by rw [hwe]; rfl) (fun c hc => by first | (rw [qst_no (Or.inl (by rw [← hw c1 h134]; exact h143))]; exact hw c hc) | (rw [qst_no (Or.inr ⟨hb153, hb166⟩)]; exact hw c hc)))
              exact gx_sub [1, 2, 0] rfl (L127 (n + 1) 0 _ _ (by omega) (by omega) he rfl hd)
        exact gx_sub [1, 0] rfl (L115 (n + 1) 0 τ (by omega) (by omega) he (fun c hc => by show _ = qw0 (qg r n) c; unfold qw0; rw [if_pos (show c < qn (qg r n) from hc)]; exact hd c (by omega)))
      · refine gx_aload_n hX 0 dX4_deriveErrors_12 rfl rfl ?_
        refine gx_aload_n hX 0 dX4_deriveErrors_13 rfl rfl ?_
        refine gx_iload_n hX 1 dX4_deriveErrors_14 rfl rfl ?_
        refine gx_iconst (v := 0) hX dX4_deriveErrors_15 rfl (by decide) ?_
        refine gx_callV (As := [.int (nI i), .int 0]) (st := [.ref mo]) hC (c_X4_get l Y mo τ r i 0 hM hrt.1 (by omega)) kX4_get wm_RX4_50 rfl (gM0 hM) rfl rfl rfl rfl rfl dX4_deriveErrors_16 rfl (gx_ki fun r16 τ16 hq16 => ?_)
        obtain ⟨rfl, rfl⟩ := hq16
        refine gx_callV (As := [.int (r (17 + 10 * i + 0))]) (st := []) hC (c_X4_definersOf l Y mo τ r n hM hrt (r (17 + 10 * i + 0))) kX4_definersOf wm_RX4_53 rfl (gM0 hM) rfl rfl rfl rfl rfl dX4_deriveErrors_19 rfl (gx_ki fun r19 τ19 hq19 => ?_)
        obtain ⟨rfl, rfl⟩ := hq19
        refine gx_iconst (v := 1) hX dX4_deriveErrors_22 rfl (by decide) ?_
        refine gx_iload_n hX 1 dX4_deriveErrors_23 rfl rfl ?_
        refine gx_ishl hX dX4_deriveErrors_24 rfl ?_
        refine gx_icmp_eq (tgt := 32) hX dX4_deriveErrors_25 (by decide) rfl (fun h25 => ?_) (fun h25 => ?_)
        · refine gx_iconst (v := 0) hX dX4_deriveErrors_32 rfl (by decide) ?_
          refine gx_istore_n (lv' := [(2, .int 0), (0, .ref mo), (1, .int (nI i))]) hX dX4_deriveErrors_33 rfl (by decide) rfl ?_
          refine gx_aload_n hX 1 dX4_deriveErrors_34 rfl rfl ?_
          refine gx_aload_n hX 1 dX4_deriveErrors_35 rfl rfl ?_
          refine gx_iload_n hX 2 dX4_deriveErrors_36 rfl rfl ?_
          refine gx_iconst (v := 2) hX dX4_deriveErrors_37 rfl (by decide) ?_
          refine gx_callV (As := [.int (nI i), .int 2]) (st := [.ref mo]) hC (c_X4_get l Y mo τ r i 2 hM hrt.1 (by omega)) kX4_get wm_RX4_50 rfl (gM0 hM) rfl rfl rfl rfl rfl dX4_deriveErrors_38 rfl (gx_ki fun r38 τ38 hq38 => ?_)
          obtain ⟨rfl, rfl⟩ := hq38
          refine gx_callV (As := [.int (r (17 + 10 * i + 2))]) (st := []) hC (c_X4_isUndefined l Y mo τ r n hM hrt (r (17 + 10 * i + 2))) kX4_isUndefined wm_RX4_63 rfl (gM0 hM) rfl rfl rfl rfl rfl dX4_deriveErrors_41 rfl (gx_ki fun r41 τ41 hq41 => ?_)
          obtain ⟨rfl, ⟨rfl, hb41⟩ | ⟨rfl, hb41⟩⟩ := hq41
          · refine gx_if_ne_t (tgt := 60) hX dX4_deriveErrors_44 (by decide) (by decide) ?_
            refine gx_iconst (v := 1) hX dX4_deriveErrors_60 rfl (by decide) ?_
            refine gx_goto (pc' := 65) hX dX4_deriveErrors_61 (by decide) ?_
            refine gx_istore_n (lv' := [(3, .int 1), (2, .int 0), (0, .ref mo), (1, .int (nI i))]) hX dX4_deriveErrors_65 rfl (by decide) rfl ?_
            refine gx_aload_n hX 2 dX4_deriveErrors_66 rfl rfl ?_
            refine gx_get hC 5 inlX4 wf_RX4_22 rfl (gM0 hM) rfl rfl rfl rfl dX4_deriveErrors_67 rfl ?_
            refine gx_iload_n hX 3 dX4_deriveErrors_70 rfl rfl ?_
            refine gx_iload_n hX 1 dX4_deriveErrors_71 rfl rfl ?_
            refine gx_if_eq_t (tgt := 79) hX dX4_deriveErrors_72 (by decide) (by decide) ?_
            refine gx_aload_n hX 2 dX4_deriveErrors_79 rfl rfl ?_
            refine gx_get hC 6 inlX4 wf_RX4_25 rfl (gM0 hM) rfl rfl rfl rfl dX4_deriveErrors_80 rfl ?_
            refine gx_iload_n hX 3 dX4_deriveErrors_83 rfl rfl ?_
            refine gx_iald (i := i) hC (gM6 hM) rfl rfl (by omega) rfl dX4_deriveErrors_84 rfl ?_
            refine gx_iload_n hX 3 dX4_deriveErrors_85 rfl rfl ?_
            refine gx_ishr hX dX4_deriveErrors_86 rfl ?_
            refine gx_iconst (v := 1) hX dX4_deriveErrors_87 rfl (by decide) ?_
            refine gx_iand hX dX4_deriveErrors_88 rfl ?_
            refine gx_iconst (v := 1) hX dX4_deriveErrors_89 rfl (by decide) ?_
            refine gx_icmp_ne (tgt := 97) hX dX4_deriveErrors_90 (by decide) rfl (fun h90 => ?_) (fun h90 => ?_)
            · refine gx_iload_n hX 0 dX4_deriveErrors_97 rfl rfl ?_
              refine gx_if_eq_f (tgt := 105) hX dX4_deriveErrors_98 (by decide) rfl (by decide) ?_
              refine gx_iconst (v := 4) hX dX4_deriveErrors_101 rfl (by decide) ?_
              refine gx_topi (b := (qown (qg r n) i)) (by unfold qown; rw [if_pos (show qdf (qg r n) (qV (qg r n) i) = qb i from h25)]; rw [if_neg (show ¬ qall (qg r n) i i = true by rw [← hal2 i i h9 h9]; exact fun q => h90 (qt_iff.mpr q))]; rw [if_pos (by first | exact Or.inl hb41 | exact Or.inr hb54)]) ?_
              refine gx_goto (pc' := 106) hX dX4_deriveErrors_102 (by decide) ?_
              refine gx_iast (i := i) hC (gM5 hM) rfl rfl rfl rfl (by omega) rfl dX4_deriveErrors_106 rfl ?_
              refine gx_iinc (w := (nI (i + 1))) (lv' := [(1, .int (nI (i + 1))), (3, .int 1), (2, .int 0), (0, .ref mo)]) hX 3 dX4_deriveErrors_107 rfl rfl (nI_add _ _) (by decide) rfl ?_
              refine gx_goto (pc' := 2) hX dX4_deriveErrors_110 (by decide) ?_
              exact gx_sub [3, 0] rfl (ih2 (i + 1) _ (by omega) (by omega) (he.put (gM5 hM) (by decide)) (uI_rng hd rfl))
            · refine gx_iconst (v := 3) hX dX4_deriveErrors_93 rfl (by decide) ?_
              refine gx_topi (b := (qown (qg r n) i)) (by unfold qown; rw [if_pos (show qdf (qg r n) (qV (qg r n) i) = qb i from h25)]; rw [if_pos (show qall (qg r n) i i = true by rw [← hal2 i i h9 h9]; exact qt_iff.mp h90)]) ?_
              refine gx_goto (pc' := 106) hX dX4_deriveErrors_94 (by decide) ?_
              refine gx_iast (i := i) hC (gM5 hM) rfl rfl rfl rfl (by omega) rfl dX4_deriveErrors_106 rfl ?_
              refine gx_iinc (w := (nI (i + 1))) (lv' := [(1, .int (nI (i + 1))), (3, .int 1), (2, .int 0), (0, .ref mo)]) hX 3 dX4_deriveErrors_107 rfl rfl (nI_add _ _) (by decide) rfl ?_
              refine gx_goto (pc' := 2) hX dX4_deriveErrors_110 (by decide) ?_
              exact gx_sub [3, 0] rfl (ih2 (i + 1) _ (by omega) (by omega) (he.put (gM5 hM) (by decide)) (uI_rng hd rfl))
          · refine gx_if_ne_f (tgt := 60) hX dX4_deriveErrors_44 (by decide) rfl (by decide) ?_
            refine gx_aload_n hX 1 dX4_deriveErrors_47 rfl rfl ?_
            refine gx_aload_n hX 1 dX4_deriveErrors_48 rfl rfl ?_
            refine gx_iload_n hX 2 dX4_deriveErrors_49 rfl rfl ?_
            refine gx_iconst (v := 3) hX dX4_deriveErrors_50 rfl (by decide) ?_
            refine gx_callV (As := [.int (nI i), .int 3]) (st := [.ref mo]) hC (c_X4_get l Y mo τ r i 3 hM hrt.1 (by omega)) kX4_get wm_RX4_50 rfl (gM0 hM) rfl rfl rfl rfl rfl dX4_deriveErrors_51 rfl (gx_ki fun r51 τ51 hq51 => ?_)
            obtain ⟨rfl, rfl⟩ := hq51
            refine gx_callV (As := [.int (r (17 + 10 * i + 3))]) (st := []) hC (c_X4_isUndefined l Y mo τ r n hM hrt (r (17 + 10 * i + 3))) kX4_isUndefined wm_RX4_63 rfl (gM0 hM) rfl rfl rfl rfl rfl dX4_deriveErrors_54 rfl (gx_ki fun r54 τ54 hq54 => ?_)
            obtain ⟨rfl, ⟨rfl, hb54⟩ | ⟨rfl, hb54⟩⟩ := hq54
            · refine gx_if_eq_f (tgt := 64) hX dX4_deriveErrors_57 (by decide) rfl (by decide) ?_
              refine gx_iconst (v := 1) hX dX4_deriveErrors_60 rfl (by decide) ?_
              refine gx_goto (pc' := 65) hX dX4_deriveErrors_61 (by decide) ?_
              refine gx_istore_n (lv' := [(3, .int 1), (2, .int 0), (0, .ref mo), (1, .int (nI i))]) hX dX4_deriveErrors_65 rfl (by decide) rfl ?_
              refine gx_aload_n hX 2 dX4_deriveErrors_66 rfl rfl ?_
              refine gx_get hC 5 inlX4 wf_RX4_22 rfl (gM0 hM) rfl rfl rfl rfl dX4_deriveErrors_67 rfl ?_
              refine gx_iload_n hX 3 dX4_deriveErrors_70 rfl rfl ?_
              refine gx_iload_n hX 1 dX4_deriveErrors_71 rfl rfl ?_
              refine gx_if_eq_t (tgt := 79) hX dX4_deriveErrors_72 (by decide) (by decide) ?_
              refine gx_aload_n hX 2 dX4_deriveErrors_79 rfl rfl ?_
              refine gx_get hC 6 inlX4 wf_RX4_25 rfl (gM0 hM) rfl rfl rfl rfl dX4_deriveErrors_80 rfl ?_
              refine gx_iload_n hX 3 dX4_deriveErrors_83 rfl rfl ?_
              refine gx_iald (i := i) hC (gM6 hM) rfl rfl (by omega) rfl dX4_deriveErrors_84 rfl ?_
              refine gx_iload_n hX 3 dX4_deriveErrors_85 rfl rfl ?_
              refine gx_ishr hX dX4_deriveErrors_86 rfl ?_
              refine gx_iconst (v := 1) hX dX4_deriveErrors_87 rfl (by decide) ?_
              refine gx_iand hX dX4_deriveErrors_88 rfl ?_
              refine gx_iconst (v := 1) hX dX4_deriveErrors_89 rfl (by decide) ?_
              refine gx_icmp_ne (tgt := 97) hX dX4_deriveErrors_90 (by decide) rfl (fun h90 => ?_) (fun h90 => ?_)
              · refine gx_iload_n hX 0 dX4_deriveErrors_97 rfl rfl ?_
                refine gx_if_eq_f (tgt := 105) hX dX4_deriveErrors_98 (by decide) rfl (by decide) ?_
                refine gx_iconst (v := 4) hX dX4_deriveErrors_101 rfl (by decide) ?_
                refine gx_topi (b := (qown (qg r n) i)) (by unfold qown; rw [if_pos (show qdf (qg r n) (qV (qg r n) i) = qb i from h25)]; rw [if_neg (show ¬ qall (qg r n) i i = true by rw [← hal2 i i h9 h9]; exact fun q => h90 (qt_iff.mpr q))]; rw [if_pos (by first | exact Or.inl hb41 | exact Or.inr hb54)]) ?_
                refine gx_goto (pc' := 106) hX dX4_deriveErrors_102 (by decide) ?_
                refine gx_iast (i := i) hC (gM5 hM) rfl rfl rfl rfl (by omega) rfl dX4_deriveErrors_106 rfl ?_
                refine gx_iinc (w := (nI (i + 1))) (lv' := [(1, .int (nI (i + 1))), (3, .int 1), (2, .int 0), (0, .ref mo)]) hX 3 dX4_deriveErrors_107 rfl rfl (nI_add _ _) (by decide) rfl ?_
                refine gx_goto (pc' := 2) hX dX4_deriveErrors_110 (by decide) ?_
                exact gx_sub [3, 0] rfl (ih2 (i + 1) _ (by omega) (by omega) (he.put (gM5 hM) (by decide)) (uI_rng hd rfl))
              · refine gx_iconst (v := 3) hX dX4_deriveErrors_93 rfl (by decide) ?_
                refine gx_topi (b := (qown (qg r n) i)) (by unfold qown; rw [if_pos (show qdf (qg r n) (qV (qg r n) i) = qb i from h25)]; rw [if_pos (show qall (qg r n) i i = true by rw [← hal2 i i h9 h9]; exact qt_iff.mp h90)]) ?_
                refine gx_goto (pc' := 106) hX dX4_deriveErrors_94 (by decide) ?_
                refine gx_iast (i := i) hC (gM5 hM) rfl rfl rfl rfl (by omega) rfl dX4_deriveErrors_106 rfl ?_
                refine gx_iinc (w := (nI (i + 1))) (lv' := [(1, .int (nI (i + 1))), (3, .int 1), (2, .int 0), (0, .ref mo)]) hX 3 dX4_deriveErrors_107 rfl rfl (nI_add _ _) (by decide) rfl ?_
                refine gx_goto (pc' := 2) hX dX4_deriveErrors_110 (by decide) ?_
                exact gx_sub [3, 0] rfl (ih2 (i + 1) _ (by omega) (by omega) (he.put (gM5 hM) (by decide)) (uI_rng hd rfl))
            · refine gx_if_eq_t (tgt := 64) hX dX4_deriveErrors_57 (by decide) (by decide) ?_
              refine gx_iconst (v := 0) hX dX4_deriveErrors_64 rfl (by decide) ?_
              refine gx_istore_n (lv' := [(3, .int 0), (2, .int 0), (0, .ref mo), (1, .int (nI i))]) hX dX4_deriveErrors_65 rfl (by decide) rfl ?_
              refine gx_aload_n hX 2 dX4_deriveErrors_66 rfl rfl ?_
              refine gx_get hC 5 inlX4 wf_RX4_22 rfl (gM0 hM) rfl rfl rfl rfl dX4_deriveErrors_67 rfl ?_
              refine gx_iload_n hX 3 dX4_deriveErrors_70 rfl rfl ?_
              refine gx_iload_n hX 1 dX4_deriveErrors_71 rfl rfl ?_
              refine gx_if_eq_t (tgt := 79) hX dX4_deriveErrors_72 (by decide) (by decide) ?_
              refine gx_aload_n hX 2 dX4_deriveErrors_79 rfl rfl ?_
              refine gx_get hC 6 inlX4 wf_RX4_25 rfl (gM0 hM) rfl rfl rfl rfl dX4_deriveErrors_80 rfl ?_
              refine gx_iload_n hX 3 dX4_deriveErrors_83 rfl rfl ?_
              refine gx_iald (i := i) hC (gM6 hM) rfl rfl (by omega) rfl dX4_deriveErrors_84 rfl ?_
              refine gx_iload_n hX 3 dX4_deriveErrors_85 rfl rfl ?_
              refine gx_ishr hX dX4_deriveErrors_86 rfl ?_
              refine gx_iconst (v := 1) hX dX4_deriveErrors_87 rfl (by decide) ?_
              refine gx_iand hX dX4_deriveErrors_88 rfl ?_
              refine gx_iconst (v := 1) hX dX4_deriveErrors_89 rfl (by decide) ?_
              refine gx_icmp_ne (tgt := 97) hX dX4_deriveErrors_90 (by decide) rfl (fun h90 => ?_) (fun h90 => ?_)
              · refine gx_iload_n hX 0 dX4_deriveErrors_97 rfl rfl ?_
                refine gx_if_eq_t (tgt := 105) hX dX4_deriveErrors_98 (by decide) (by decide) ?_
                refine gx_iconst (v := 0) hX dX4_deriveErrors_105 rfl (by decide) ?_
                refine gx_topi (b := (qown (qg r n) i)) (by unfold qown; rw [if_pos (show qdf (qg r n) (qV (qg r n) i) = qb i from h25)]; rw [if_neg (show ¬ qall (qg r n) i i = true by rw [← hal2 i i h9 h9]; exact fun q => h90 (qt_iff.mpr q))]; rw [if_neg (by rintro (q | q); exact hb41 q; exact hb54 q)]) ?_
                refine gx_iast (i := i) hC (gM5 hM) rfl rfl rfl rfl (by omega) rfl dX4_deriveErrors_106 rfl ?_
                refine gx_iinc (w := (nI (i + 1))) (lv' := [(1, .int (nI (i + 1))), (3, .int 0), (2, .int 0), (0, .ref mo)]) hX 3 dX4_deriveErrors_107 rfl rfl (nI_add _ _) (by decide) rfl ?_
                refine gx_goto (pc' := 2) hX dX4_deriveErrors_110 (by decide) ?_
                exact gx_sub [3, 0] rfl (ih2 (i + 1) _ (by omega) (by omega) (he.put (gM5 hM) (by decide)) (uI_rng hd rfl))
              · refine gx_iconst (v := 3) hX dX4_deriveErrors_93 rfl (by decide) ?_
                refine gx_topi (b := (qown (qg r n) i)) (by unfold qown; rw [if_pos (show qdf (qg r n) (qV (qg r n) i) = qb i from h25)]; rw [if_pos (show qall (qg r n) i i = true by rw [← hal2 i i h9 h9]; exact qt_iff.mp h90)]) ?_
                refine gx_goto (pc' := 106) hX dX4_deriveErrors_94 (by decide) ?_
                refine gx_iast (i := i) hC (gM5 hM) rfl rfl rfl rfl (by omega) rfl dX4_deriveErrors_106 rfl ?_
                refine gx_iinc (w := (nI (i + 1))) (lv' := [(1, .int (nI (i + 1))), (3, .int 0), (2, .int 0), (0, .ref mo)]) hX 3 dX4_deriveErrors_107 rfl rfl (nI_add _ _) (by decide) rfl ?_
                refine gx_goto (pc' := 2) hX dX4_deriveErrors_110 (by decide) ?_
                exact gx_sub [3, 0] rfl (ih2 (i + 1) _ (by omega) (by omega) (he.put (gM5 hM) (by decide)) (uI_rng hd rfl))
        · refine gx_iconst (v := 1) hX dX4_deriveErrors_28 rfl (by decide) ?_
          refine gx_goto (pc' := 33) hX dX4_deriveErrors_29 (by decide) ?_
          refine gx_istore_n (lv' := [(2, .int 1), (0, .ref mo), (1, .int (nI i))]) hX dX4_deriveErrors_33 rfl (by decide) rfl ?_
          refine gx_aload_n hX 1 dX4_deriveErrors_34 rfl rfl ?_
          refine gx_aload_n hX 1 dX4_deriveErrors_35 rfl rfl ?_
          refine gx_iload_n hX 2 dX4_deriveErrors_36 rfl rfl ?_
          refine gx_iconst (v := 2) hX dX4_deriveErrors_37 rfl (by decide) ?_
          refine gx_callV (As := [.int (nI i), .int 2]) (st := [.ref mo]) hC (c_X4_get l Y mo τ r i 2 hM hrt.1 (by omega)) kX4_get wm_RX4_50 rfl (gM0 hM) rfl rfl rfl rfl rfl dX4_deriveErrors_38 rfl (gx_ki fun r38 τ38 hq38 => ?_)
          obtain ⟨rfl, rfl⟩ := hq38
          refine gx_callV (As := [.int (r (17 + 10 * i + 2))]) (st := []) hC (c_X4_isUndefined l Y mo τ r n hM hrt (r (17 + 10 * i + 2))) kX4_isUndefined wm_RX4_63 rfl (gM0 hM) rfl rfl rfl rfl rfl dX4_deriveErrors_41 rfl (gx_ki fun r41 τ41 hq41 => ?_)
          obtain ⟨rfl, ⟨rfl, hb41⟩ | ⟨rfl, hb41⟩⟩ := hq41
          · refine gx_if_ne_t (tgt := 60) hX dX4_deriveErrors_44 (by decide) (by decide) ?_
            refine gx_iconst (v := 1) hX dX4_deriveErrors_60 rfl (by decide) ?_
            refine gx_goto (pc' := 65) hX dX4_deriveErrors_61 (by decide) ?_
            refine gx_istore_n (lv' := [(3, .int 1), (2, .int 1), (0, .ref mo), (1, .int (nI i))]) hX dX4_deriveErrors_65 rfl (by decide) rfl ?_
            refine gx_aload_n hX 2 dX4_deriveErrors_66 rfl rfl ?_
            refine gx_get hC 5 inlX4 wf_RX4_22 rfl (gM0 hM) rfl rfl rfl rfl dX4_deriveErrors_67 rfl ?_
            refine gx_iload_n hX 3 dX4_deriveErrors_70 rfl rfl ?_
            refine gx_iload_n hX 1 dX4_deriveErrors_71 rfl rfl ?_
            refine gx_if_eq_f (tgt := 79) hX dX4_deriveErrors_72 (by decide) rfl (by decide) ?_
            refine gx_iconst (v := 2) hX dX4_deriveErrors_75 rfl (by decide) ?_
            refine gx_topi (b := (qown (qg r n) i)) (by unfold qown; rw [if_neg (show ¬ qdf (qg r n) (qV (qg r n) i) = qb i from h25)]) ?_
            refine gx_goto (pc' := 106) hX dX4_deriveErrors_76 (by decide) ?_
            refine gx_iast (i := i) hC (gM5 hM) rfl rfl rfl rfl (by omega) rfl dX4_deriveErrors_106 rfl ?_
            refine gx_iinc (w := (nI (i + 1))) (lv' := [(1, .int (nI (i + 1))), (3, .int 1), (2, .int 1), (0, .ref mo)]) hX 3 dX4_deriveErrors_107 rfl rfl (nI_add _ _) (by decide) rfl ?_
            refine gx_goto (pc' := 2) hX dX4_deriveErrors_110 (by decide) ?_
            exact gx_sub [3, 0] rfl (ih2 (i + 1) _ (by omega) (by omega) (he.put (gM5 hM) (by decide)) (uI_rng hd rfl))
          · refine gx_if_ne_f (tgt := 60) hX dX4_deriveErrors_44 (by decide) rfl (by decide) ?_
            refine gx_aload_n hX 1 dX4_deriveErrors_47 rfl rfl ?_
            refine gx_aload_n hX 1 dX4_deriveErrors_48 rfl rfl ?_
            refine gx_iload_n hX 2 dX4_deriveErrors_49 rfl rfl ?_
            refine gx_iconst (v := 3) hX dX4_deriveErrors_50 rfl (by decide) ?_
            refine gx_callV (As := [.int (nI i), .int 3]) (st := [.ref mo]) hC (c_X4_get l Y mo τ r i 3 hM hrt.1 (by omega)) kX4_get wm_RX4_50 rfl (gM0 hM) rfl rfl rfl rfl rfl dX4_deriveErrors_51 rfl (gx_ki fun r51 τ51 hq51 => ?_)
            obtain ⟨rfl, rfl⟩ := hq51
            refine gx_callV (As := [.int (r (17 + 10 * i + 3))]) (st := []) hC (c_X4_isUndefined l Y mo τ r n hM hrt (r (17 + 10 * i + 3))) kX4_isUndefined wm_RX4_63 rfl (gM0 hM) rfl rfl rfl rfl rfl dX4_deriveErrors_54 rfl (gx_ki fun r54 τ54 hq54 => ?_)
            obtain ⟨rfl, ⟨rfl, hb54⟩ | ⟨rfl, hb54⟩⟩ := hq54
            · refine gx_if_eq_f (tgt := 64) hX dX4_deriveErrors_57 (by decide) rfl (by decide) ?_
              refine gx_iconst (v := 1) hX dX4_deriveErrors_60 rfl (by decide) ?_
              refine gx_goto (pc' := 65) hX dX4_deriveErrors_61 (by decide) ?_
              refine gx_istore_n (lv' := [(3, .int 1), (2, .int 1), (0, .ref mo), (1, .int (nI i))]) hX dX4_deriveErrors_65 rfl (by decide) rfl ?_
              refine gx_aload_n hX 2 dX4_deriveErrors_66 rfl rfl ?_
              refine gx_get hC 5 inlX4 wf_RX4_22 rfl (gM0 hM) rfl rfl rfl rfl dX4_deriveErrors_67 rfl ?_
              refine gx_iload_n hX 3 dX4_deriveErrors_70 rfl rfl ?_
              refine gx_iload_n hX 1 dX4_deriveErrors_71 rfl rfl ?_
              refine gx_if_eq_f (tgt := 79) hX dX4_deriveErrors_72 (by decide) rfl (by decide) ?_
              refine gx_iconst (v := 2) hX dX4_deriveErrors_75 rfl (by decide) ?_
              refine gx_topi (b := (qown (qg r n) i)) (by unfold qown; rw [if_neg (show ¬ qdf (qg r n) (qV (qg r n) i) = qb i from h25)]) ?_
              refine gx_goto (pc' := 106) hX dX4_deriveErrors_76 (by decide) ?_
              refine gx_iast (i := i) hC (gM5 hM) rfl rfl rfl rfl (by omega) rfl dX4_deriveErrors_106 rfl ?_
              refine gx_iinc (w := (nI (i + 1))) (lv' := [(1, .int (nI (i + 1))), (3, .int 1), (2, .int 1), (0, .ref mo)]) hX 3 dX4_deriveErrors_107 rfl rfl (nI_add _ _) (by decide) rfl ?_
              refine gx_goto (pc' := 2) hX dX4_deriveErrors_110 (by decide) ?_
              exact gx_sub [3, 0] rfl (ih2 (i + 1) _ (by omega) (by omega) (he.put (gM5 hM) (by decide)) (uI_rng hd rfl))
            · refine gx_if_eq_t (tgt := 64) hX dX4_deriveErrors_57 (by decide) (by decide) ?_
              refine gx_iconst (v := 0) hX dX4_deriveErrors_64 rfl (by decide) ?_
              refine gx_istore_n (lv' := [(3, .int 0), (2, .int 1), (0, .ref mo), (1, .int (nI i))]) hX dX4_deriveErrors_65 rfl (by decide) rfl ?_
              refine gx_aload_n hX 2 dX4_deriveErrors_66 rfl rfl ?_
              refine gx_get hC 5 inlX4 wf_RX4_22 rfl (gM0 hM) rfl rfl rfl rfl dX4_deriveErrors_67 rfl ?_
              refine gx_iload_n hX 3 dX4_deriveErrors_70 rfl rfl ?_
              refine gx_iload_n hX 1 dX4_deriveErrors_71 rfl rfl ?_
              refine gx_if_eq_f (tgt := 79) hX dX4_deriveErrors_72 (by decide) rfl (by decide) ?_
              refine gx_iconst (v := 2) hX dX4_deriveErrors_75 rfl (by decide) ?_
              refine gx_topi (b := (qown (qg r n) i)) (by unfold qown; rw [if_neg (show ¬ qdf (qg r n) (qV (qg r n) i) = qb i from h25)]) ?_
              refine gx_goto (pc' := 106) hX dX4_deriveErrors_76 (by decide) ?_
              refine gx_iast (i := i) hC (gM5 hM) rfl rfl rfl rfl (by omega) rfl dX4_deriveErrors_106 rfl ?_
              refine gx_iinc (w := (nI (i + 1))) (lv' := [(1, .int (nI (i + 1))), (3, .int 0), (2, .int 1), (0, .ref mo)]) hX 3 dX4_deriveErrors_107 rfl rfl (nI_add _ _) (by decide) rfl ?_
              refine gx_goto (pc' := 2) hX dX4_deriveErrors_110 (by decide) ?_
              exact gx_sub [3, 0] rfl (ih2 (i + 1) _ (by omega) (by omega) (he.put (gM5 hM) (by decide)) (uI_rng hd rfl))
  exact gx_sub [1, 0] rfl (L2 (n + 1) 0 σ (by omega) (by omega) gEq.rf (fun c hc => absurd hc (Nat.not_lt_zero c)))

set_option maxRecDepth 100000 in
set_option maxHeartbeats 4000000 in
theorem c_X4_deriveOrder (l : Launch) (Y : gL) (mo : Nat) (σ : gS) (r : Nat → Int32) (n : Nat) (hM : gLM Y mo) (hr : gRow Y mo σ r n) (hdi : ∀ c, c < n → σ.1 (gF Y mo 4) c = qdir (qg r n) c) (hwr : ∀ c, c < n → σ.1 (gF Y mo 5) c = qw (qg r n) c) : gM l yX4_deriveOrder cX4_deriveOrder 4 none (gRm 0 0) Y [.ref mo] σ (gV fun τ => gEq Y [15, 22] σ τ ∧ τ.1 mo 2 = σ.1 mo 2 ∧ τ.1 mo 8 = nI (qm (qg r n)) ∧ (∀ k, k < qm (qg r n) → τ.1 (gF Y mo 7) k = nI (qo (qg r n) k))) := by
  have hr1 := hr.1
  have hr2 := hr.2.1
  have hr3 := hr.2.2
  refine gM.of (by decide) rfl ?_
  intro p e s m args below meth c hC
  have hX := hC.1
  refine gx_aload_n hX 0 dX4_deriveOrder_0 rfl rfl ?_
  refine gx_iconst (v := 0) hX dX4_deriveOrder_1 rfl (by decide) ?_
  refine gx_put (τ := uI σ mo 8 0) hC 8 inlX4 tyX4_ok nmX4 wf_RX4_70 rfl (gM0 hM) rfl rfl (by simp [gE, uI]) (fun b hb => gEnt_I hb) rfl rfl rfl rfl rfl rfl rfl dX4_deriveOrder_2 rfl ?_
  refine gx_iconst (v := 0) hX dX4_deriveOrder_5 rfl (by decide) ?_
  refine gx_istore_n (lv' := [(1, .int 0), (0, .ref mo)]) hX dX4_deriveOrder_6 rfl (by decide) rfl ?_
  refine gx_iconst (v := 1) hX dX4_deriveOrder_7 rfl (by decide) ?_
  refine gx_istore_n (lv' := [(2, .int 1), (1, .int 0), (0, .ref mo)]) hX dX4_deriveOrder_8 rfl (by decide) rfl ?_
  have L9 : ∀ (k9 : Nat) (k e1 : Nat) (mv : Int32) (τ : gS), 2 * (n - k) + e1 < k9 → (gEq Y [15, 22] σ τ) → (τ.1 mo 2 = σ.1 mo 2) → (τ.1 mo 8 = nI k) → (∀ j, j < k → qo (qg r n) j < n) → (∀ j, j < k → τ.1 (gF Y mo 7) j = nI (qo (qg r n) j)) → ((mv = 1 ∧ e1 = 1) ∨ (mv = 0 ∧ e1 = 0 ∧ qo (qg r n) k = n)) → gG p l e (gRm 0 0) s m args below meth c Y (gV fun τ => gEq Y [15, 22] σ τ ∧ τ.1 mo 2 = σ.1 mo 2 ∧ τ.1 mo 8 = nI (qm (qg r n)) ∧ (∀ k, k < qm (qg r n) → τ.1 (gF Y mo 7) k = nI (qo (qg r n) k))) τ 9 [(0, .ref mo), (1, .int (qpl (qg r n) k)), (2, .int mv)] [] := by
    intro k9
    induction k9 with
    | zero => intro k e1 mv τ hk9; exact absurd hk9 (Nat.not_lt_zero _)
    | succ k9 ih9 =>
      intro k e1 mv τ hk9 he h2 hk8 hall hod hmv
      have hrt := hr.eq hM he (by decide)
      have hdi2 : ∀ c, c < n → τ.1 (gF Y mo 4) c = qdir (qg r n) c := by rw [he.at (gM4 hM) (by decide)]; exact hdi
      have hwr2 : ∀ c, c < n → τ.1 (gF Y mo 5) c = qw (qg r n) c := by rw [he.at (gM5 hM) (by decide)]; exact hwr
      refine gx_iload_n hX 2 dX4_deriveOrder_9 rfl rfl ?_
      refine gx_if_eq (tgt := 98) hX dX4_deriveOrder_10 (by decide) rfl (fun h10 => ?_) (fun h10 => ?_)
      · have hqk : qo (qg r n) k = n := by rcases hmv with ⟨q, -⟩ | ⟨-, -, q⟩; exact absurd (q.symm.trans h10) (by decide); exact q
        have hqm : qm (qg r n) = k := qm_at (g := qg r n) hr3 hall hqk
        exact gx_vret hC dX4_deriveOrder_98 (⟨he, h2, by rw [hqm]; exact hk8, by rw [hqm]; exact hod⟩)
      · have hmv1 : e1 = 1 := by rcases hmv with ⟨-, q⟩ | ⟨q, -⟩; exact q; exact absurd q h10
        refine gx_iconst (v := 0) hX dX4_deriveOrder_13 rfl (by decide) ?_
        refine gx_istore_n (lv' := [(2, .int 0), (0, .ref mo), (1, .int (qpl (qg r n) k))]) hX dX4_deriveOrder_14 rfl (by decide) rfl ?_
        refine gx_iconst (v := 0) hX dX4_deriveOrder_15 rfl (by decide) ?_
        refine gx_istore_n (lv' := [(3, .int 0), (2, .int 0), (0, .ref mo), (1, .int (qpl (qg r n) k))]) hX dX4_deriveOrder_16 rfl (by decide) rfl ?_
        have L17 : ∀ (k17 : Nat) (c1 : Nat), n - c1 < k17 → (c1 ≤ n) → (∀ j, j < c1 → qrdy (qg r n) (qpl (qg r n) k) j = false) → gG p l e (gRm 0 0) s m args below meth c Y (gV fun τ => gEq Y [15, 22] σ τ ∧ τ.1 mo 2 = σ.1 mo 2 ∧ τ.1 mo 8 = nI (qm (qg r n)) ∧ (∀ k, k < qm (qg r n) → τ.1 (gF Y mo 7) k = nI (qo (qg r n) k))) τ 17 [(0, .ref mo), (1, .int (qpl (qg r n) k)), (2, .int 0), (3, .int (nI c1))] [] := by
          intro k17
          induction k17 with
          | zero => intro c1 hk17; exact absurd hk17 (Nat.not_lt_zero _)
          | succ k17 ih17 =>
            intro c1 hk17 hc1 hno
            refine gx_iload_n hX 3 dX4_deriveOrder_17 rfl rfl ?_
            refine gx_aload_n hX 0 dX4_deriveOrder_18 rfl rfl ?_
            refine gx_get hC 0 inlX4 wf_RX4_7 rfl (gM0 hM) rfl rfl rfl rfl dX4_deriveOrder_19 rfl ?_
            refine gx_iconst (v := 0) hX dX4_deriveOrder_22 rfl (by decide) ?_
            refine gx_iald (i := 0) hC (gM1 hM) rfl rfl (by omega) rfl dX4_deriveOrder_23 rfl ?_
            refine gx_topi (b := (nI n)) (by rw [(hrt).1]; exact hr2) ?_
            refine gx_nat_ge (i := c1) (j := n) (tgt := 95) hX dX4_deriveOrder_24 (by decide) rfl rfl rfl (by omega) (by omega) (fun h24 => ?_) (fun h24 => ?_)
            · refine gx_goto (pc' := 9) hX dX4_deriveOrder_95 (by decide) ?_
              exact gx_sub [0, 1, 2] rfl (ih9 k 0 0 _ (by omega) he h2 hk8 hall hod (Or.inr ⟨rfl, rfl, qfst_none (fun j hj => hno j (by have e : qn (qg r n) = n := rfl; omega))⟩))
            · refine gx_iload_n hX 2 dX4_deriveOrder_27 rfl rfl ?_
              refine gx_if_ne_f (tgt := 95) hX dX4_deriveOrder_28 (by decide) rfl (by decide) ?_
              refine gx_aload_n hX 0 dX4_deriveOrder_31 rfl rfl ?_
              refine gx_get hC 5 inlX4 wf_RX4_22 rfl (gM0 hM) rfl rfl rfl rfl dX4_deriveOrder_32 rfl ?_
              refine gx_iload_n hX 3 dX4_deriveOrder_35 rfl rfl ?_
              refine gx_iald (i := c1) hC (gM5 hM) rfl rfl (by omega) rfl dX4_deriveOrder_36 rfl ?_
              refine gx_if_ne (tgt := 89) hX dX4_deriveOrder_37 (by decide) rfl (fun h37 => ?_) (fun h37 => ?_)
              · refine gx_iinc (w := (nI (c1 + 1))) (lv' := [(3, .int (nI (c1 + 1))), (0, .ref mo), (1, .int (qpl (qg r n) k)), (2, .int 0)]) hX 3 dX4_deriveOrder_89 rfl rfl (nI_add _ _) (by decide) rfl ?_
                refine gx_goto (pc' := 17) hX dX4_deriveOrder_92 (by decide) ?_
                exact gx_sub [1, 2, 3, 0] rfl (ih17 (c1 + 1) (by omega) (by omega) (fun j hj => by rcases Nat.lt_or_ge j c1 with q | q; exact hno j q; rw [show j = c1 by omega]; unfold qrdy; rw [← hwr2 c1 h24, ← hdi2 c1 h24]; first | (rw [decide_eq_false h37]; rfl) | (cases e : qt (qpl (qg r n) k) c1; exact absurd (qt_iff0.mpr e) h45; simp) | (rw [decide_eq_false h58]; simp)))
              · refine gx_iload_n hX 1 dX4_deriveOrder_40 rfl rfl ?_
                refine gx_iload_n hX 3 dX4_deriveOrder_41 rfl rfl ?_
                refine gx_ishr hX dX4_deriveOrder_42 rfl ?_
                refine gx_iconst (v := 1) hX dX4_deriveOrder_43 rfl (by decide) ?_
                refine gx_iand hX dX4_deriveOrder_44 rfl ?_
                refine gx_if_ne (tgt := 89) hX dX4_deriveOrder_45 (by decide) rfl (fun h45 => ?_) (fun h45 => ?_)
                · refine gx_iinc (w := (nI (c1 + 1))) (lv' := [(3, .int (nI (c1 + 1))), (0, .ref mo), (1, .int (qpl (qg r n) k)), (2, .int 0)]) hX 3 dX4_deriveOrder_89 rfl rfl (nI_add _ _) (by decide) rfl ?_
                  refine gx_goto (pc' := 17) hX dX4_deriveOrder_92 (by decide) ?_
                  exact gx_sub [1, 2, 3, 0] rfl (ih17 (c1 + 1) (by omega) (by omega) (fun j hj => by rcases Nat.lt_or_ge j c1 with q | q; exact hno j q; rw [show j = c1 by omega]; unfold qrdy; rw [← hwr2 c1 h24, ← hdi2 c1 h24]; first | (rw [decide_eq_false h37]; rfl) | (cases e : qt (qpl (qg r n) k) c1; exact absurd (qt_iff0.mpr e) h45; simp) | (rw [decide_eq_false h58]; simp)))
                · refine gx_aload_n hX 0 dX4_deriveOrder_48 rfl rfl ?_
                  refine gx_get hC 4 inlX4 wf_RX4_19 rfl (gM0 hM) rfl rfl rfl rfl dX4_deriveOrder_49 rfl ?_
                  refine gx_iload_n hX 3 dX4_deriveOrder_52 rfl rfl ?_
                  refine gx_iald (i := c1) hC (gM4 hM) rfl rfl (by omega) rfl dX4_deriveOrder_53 rfl ?_
                  refine gx_iload_n hX 1 dX4_deriveOrder_54 rfl rfl ?_
                  refine gx_iconst (v := (-1)) hX dX4_deriveOrder_55 rfl (by decide) ?_
                  refine gx_ixor hX dX4_deriveOrder_56 rfl ?_
                  refine gx_iand hX dX4_deriveOrder_57 rfl ?_
                  refine gx_if_ne (tgt := 89) hX dX4_deriveOrder_58 (by decide) rfl (fun h58 => ?_) (fun h58 => ?_)
                  · refine gx_iinc (w := (nI (c1 + 1))) (lv' := [(3, .int (nI (c1 + 1))), (0, .ref mo), (1, .int (qpl (qg r n) k)), (2, .int 0)]) hX 3 dX4_deriveOrder_89 rfl rfl (nI_add _ _) (by decide) rfl ?_
                    refine gx_goto (pc' := 17) hX dX4_deriveOrder_92 (by decide) ?_
                    exact gx_sub [1, 2, 3, 0] rfl (ih17 (c1 + 1) (by omega) (by omega) (fun j hj => by rcases Nat.lt_or_ge j c1 with q | q; exact hno j q; rw [show j = c1 by omega]; unfold qrdy; rw [← hwr2 c1 h24, ← hdi2 c1 h24]; first | (rw [decide_eq_false h37]; rfl) | (cases e : qt (qpl (qg r n) k) c1; exact absurd (qt_iff0.mpr e) h45; simp) | (rw [decide_eq_false h58]; simp)))
                  · have hc1n := h24
                    have hq : qo (qg r n) k = c1 := qfst_at h24 hno (by unfold qrdy; rw [← hwr2 c1 h24, ← hdi2 c1 h24, h37, qt_iff0.mp h45, h58]; rfl)
                    have hkn : k < n := qo_few (g := qg r n) hr3 (k := k + 1) (fun j hj => by rcases Nat.lt_or_ge j k with q | q; exact hall j q; rw [show j = k by omega, hq]; exact h24)
                    refine gx_aload_n hX 0 dX4_deriveOrder_61 rfl rfl ?_
                    refine gx_get hC 7 inlX4 wf_RX4_28 rfl (gM0 hM) rfl rfl rfl rfl dX4_deriveOrder_62 rfl ?_
                    refine gx_aload_n hX 0 dX4_deriveOrder_65 rfl rfl ?_
                    refine gx_get hC 8 inlX4 wf_RX4_70 rfl (gM0 hM) rfl rfl rfl rfl dX4_deriveOrder_66 rfl ?_
                    refine gx_topi (b := (nI k)) (by first | exact hk8 | (rw [uI_ne (gK_ne (gM0 hM) (gM7 hM) (by decide))]; exact hk8)) ?_
                    refine gx_iload_n hX 3 dX4_deriveOrder_69 rfl rfl ?_
                    refine gx_iast (i := k) hC (gM7 hM) rfl rfl rfl rfl (by omega) rfl dX4_deriveOrder_70 rfl ?_
                    refine gx_aload_n hX 0 dX4_deriveOrder_71 rfl rfl ?_
                    refine gx_dup hX dX4_deriveOrder_72 rfl rfl ?_
                    refine gx_get hC 8 inlX4 wf_RX4_70 rfl (gM0 hM) rfl rfl rfl rfl dX4_deriveOrder_73 rfl ?_
                    refine gx_topi (b := (nI k)) (by first | exact hk8 | (rw [uI_ne (gK_ne (gM0 hM) (gM7 hM) (by decide))]; exact hk8)) ?_
                    refine gx_iconst (v := 1) hX dX4_deriveOrder_76 rfl (by decide) ?_
                    refine gx_iaddN (i := k) (j := 1) hX dX4_deriveOrder_77 rfl rfl rfl ?_
                    refine gx_put (τ := uI (uI τ (gF Y mo 7) k (nI c1)) mo 8 (nI (k + 1))) hC 8 inlX4 tyX4_ok nmX4 wf_RX4_70 rfl (gM0 hM) rfl rfl (by simp [gE, uI]) (fun b hb => gEnt_I hb) rfl rfl rfl rfl rfl rfl rfl dX4_deriveOrder_78 rfl ?_
                    refine gx_iload_n hX 1 dX4_deriveOrder_81 rfl rfl ?_
                    refine gx_iconst (v := 1) hX dX4_deriveOrder_82 rfl (by decide) ?_
                    refine gx_iload_n hX 3 dX4_deriveOrder_83 rfl rfl ?_
                    refine gx_ishl hX dX4_deriveOrder_84 rfl ?_
                    refine gx_ior hX dX4_deriveOrder_85 rfl ?_
                    refine gx_topi (b := (qpl (qg r n) (k + 1))) (by show qpl (qg r n) k ||| qb c1 = qpl (qg r n) k ||| qb (qo (qg r n) k); rw [hq]) ?_
                    refine gx_istore_n (lv' := [(1, .int (qpl (qg r n) (k + 1))), (0, .ref mo), (2, .int 0), (3, .int (nI c1))]) hX dX4_deriveOrder_86 rfl (by decide) rfl ?_
                    refine gx_iconst (v := 1) hX dX4_deriveOrder_87 rfl (by decide) ?_
                    refine gx_istore_n (lv' := [(2, .int 1), (1, .int (qpl (qg r n) (k + 1))), (0, .ref mo), (3, .int (nI c1))]) hX dX4_deriveOrder_88 rfl (by decide) rfl ?_
                    refine gx_iinc (w := (nI (c1 + 1))) (lv' := [(3, .int (nI (c1 + 1))), (2, .int 1), (1, .int (qpl (qg r n) (k + 1))), (0, .ref mo)]) hX 3 dX4_deriveOrder_89 rfl rfl (nI_add _ _) (by decide) rfl ?_
                    refine gx_goto (pc' := 17) hX dX4_deriveOrder_92 (by decide) ?_
                    refine gx_iload_n hX 0 dX4_deriveOrder_17 rfl rfl ?_
                    refine gx_aload_n hX 3 dX4_deriveOrder_18 rfl rfl ?_
                    refine gx_get hC 0 inlX4 wf_RX4_7 rfl (gM0 hM) rfl rfl rfl rfl dX4_deriveOrder_19 rfl ?_
                    refine gx_iconst (v := 0) hX dX4_deriveOrder_22 rfl (by decide) ?_
                    refine gx_iald (i := 0) hC (gM1 hM) rfl rfl (by omega) rfl dX4_deriveOrder_23 rfl ?_
                    refine gx_topi (b := (nI n)) (by rw [(((hrt.put (gM7 hM) (by decide) hM).put (gM0 hM) (by decide) hM)).1]; exact hr2) ?_
                    refine gx_nat_ge (i := c1 + 1) (j := n) (tgt := 95) hX dX4_deriveOrder_24 (by decide) rfl rfl rfl (by omega) (by omega) (fun h24 => ?_) (fun h24 => ?_)
                    · refine gx_goto (pc' := 9) hX dX4_deriveOrder_95 (by decide) ?_
                      exact gx_sub [3, 2, 1] rfl (ih9 (k + 1) 1 1 _ (by omega) ((he.put (gM7 hM) (by decide)).put (gM0 hM) (by decide)) (by rw [uI_off (by decide), uI_ne (gK_ne (gM0 hM) (gM7 hM) (by decide))]; exact h2) uI_at (fun j hj => by rcases Nat.lt_or_ge j k with q | q; exact hall j q; rw [show j = k by omega, hq]; exact hc1n) (fun j hj => by rw [uI_ne (gK_ne (gM7 hM) (gM0 hM) (by decide))]; exact uI_rng (P := fun j => nI (qo (qg r n) j)) hod (by rw [hq]) j hj) (Or.inl ⟨rfl, rfl⟩))
                    · refine gx_iload_n hX 1 dX4_deriveOrder_27 rfl rfl ?_
                      refine gx_if_ne_t (tgt := 95) hX dX4_deriveOrder_28 (by decide) (by decide) ?_
                      refine gx_goto (pc' := 9) hX dX4_deriveOrder_95 (by decide) ?_
                      exact gx_sub [3, 2, 1] rfl (ih9 (k + 1) 1 1 _ (by omega) ((he.put (gM7 hM) (by decide)).put (gM0 hM) (by decide)) (by rw [uI_off (by decide), uI_ne (gK_ne (gM0 hM) (gM7 hM) (by decide))]; exact h2) uI_at (fun j hj => by rcases Nat.lt_or_ge j k with q | q; exact hall j q; rw [show j = k by omega, hq]; exact hc1n) (fun j hj => by rw [uI_ne (gK_ne (gM7 hM) (gM0 hM) (by decide))]; exact uI_rng (P := fun j => nI (qo (qg r n) j)) hod (by rw [hq]) j hj) (Or.inl ⟨rfl, rfl⟩))
        exact gx_sub [2, 3, 1, 0] rfl (L17 (n + 1) 0 (by omega) (by omega) (fun j hj => absurd hj (Nat.not_lt_zero j)))
  exact gx_sub [2, 1, 0] rfl (L9 (2 * n + 2) 0 1 1 _ (by omega) (gEq.rf.put (gM0 hM) (by decide)) (uI_off (by decide)) uI_at (fun j hj => absurd hj (Nat.not_lt_zero j)) (fun j hj => absurd hj (Nat.not_lt_zero j)) (Or.inl ⟨rfl, rfl⟩))
