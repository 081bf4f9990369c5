set_option maxRecDepth 100000 in
set_option maxHeartbeats 4000000 in
theorem c_X4_deriveDependencies (l : Launch) (Y : gL) (mo : Nat) (σ : gS) (r : Nat → Int32) (n : Nat) (hM : gLM Y mo) (hr : gRow Y mo σ r n) : gM l yX4_deriveDependencies cX4_deriveDependencies 4 none (gRm 4 87) Y [.ref mo] σ (gV fun τ => gEq Y [19, 21] σ τ ∧ (∀ c, c < n → τ.1 (gF Y mo 4) c = qdir (qg r n) c) ∧ (∀ c d, c < n → d < n → qt (τ.1 (gF Y mo 6) c) d = qall (qg r n) c d)) := by
  have hr1 := hr.1
  have hr2 := hr.2.1
  have hr3 := hr.2.2
  refine gM.of (by decide) rfl ?_
  intro p e s m args below meth c hC
  have hX := hC.1
  refine gx_iconst (v := 0) hX dX4_deriveDependencies_0 rfl (by decide) ?_
  refine gx_istore_n (lv' := [(1, .int 0), (0, .ref mo)]) hX dX4_deriveDependencies_1 rfl (by decide) rfl ?_
  have L2 : ∀ (k2 : Nat) (i : Nat) (τ : gS), n - i < k2 → (i ≤ n) → (gEq Y [19, 21] σ τ) → (∀ c, c < i → τ.1 (gF Y mo 4) c = qdir (qg r n) c) → (∀ c, c < i → τ.1 (gF Y mo 6) c = qdir (qg r n) c) → gG p l e (gRm 4 87) s m args below meth c Y (gV fun τ => gEq Y [19, 21] σ τ ∧ (∀ c, c < n → τ.1 (gF Y mo 4) c = qdir (qg r n) c) ∧ (∀ c d, c < n → d < n → qt (τ.1 (gF Y mo 6) c) d = qall (qg r n) c d)) τ 2 [(0, .ref mo), (1, .int (nI i))] [] := by
    intro k2
    induction k2 with
    | zero => intro i τ hk2; exact absurd hk2 (Nat.not_lt_zero _)
    | succ k2 ih2 =>
      intro i τ hk2 hi he hd ha
      have hrt := hr.eq hM he (by decide)
      refine gx_iload_n hX 1 dX4_deriveDependencies_2 rfl rfl ?_
      refine gx_aload_n hX 0 dX4_deriveDependencies_3 rfl rfl ?_
      refine gx_get hC 0 inlX4 wf_RX4_7 rfl (gM0 hM) rfl rfl rfl rfl dX4_deriveDependencies_4 rfl ?_
      refine gx_iconst (v := 0) hX dX4_deriveDependencies_7 rfl (by decide) ?_
      refine gx_iald (i := 0) hC (gM1 hM) rfl rfl (by omega) rfl dX4_deriveDependencies_8 rfl ?_
      refine gx_topi (b := (nI n)) (by rw [(hrt).1]; exact hr2) ?_
      refine gx_nat_ge (i := i) (j := n) (tgt := 87) hX dX4_deriveDependencies_9 (by decide) rfl rfl rfl (by omega) (by omega) (fun h9 => ?_) (fun h9 => ?_)
      · refine gx_iconst (v := 0) hX dX4_deriveDependencies_87 rfl (by decide) ?_
        refine gx_istore_n (lv' := [(1, .int 0), (0, .ref mo)]) hX dX4_deriveDependencies_88 rfl (by decide) rfl ?_
        have L89 : ∀ (k89 : Nat) (t : Nat) (τ : gS), n - t < k89 → (t ≤ n) → (gEq Y [19, 21] σ τ) → (∀ c, c < n → τ.1 (gF Y mo 4) c = qdir (qg r n) c) → (qSnd (qg r n) (τ.1 (gF Y mo 6))) → (qCmp (qg r n) (τ.1 (gF Y mo 6)) (qlim t 0 0)) → gG p l e (gRm 4 87) s m args below meth c Y (gV fun τ => gEq Y [19, 21] σ τ ∧ (∀ c, c < n → τ.1 (gF Y mo 4) c = qdir (qg r n) c) ∧ (∀ c d, c < n → d < n → qt (τ.1 (gF Y mo 6) c) d = qall (qg r n) c d)) τ 89 [(0, .ref mo), (1, .int (nI t))] [] := by
          intro k89
          induction k89 with
          | zero => intro t τ hk89; exact absurd hk89 (Nat.not_lt_zero _)
          | succ k89 ih89 =>
            intro t τ hk89 ht he hd hs hm
            have hrt := hr.eq hM he (by decide)
            refine gx_iload_n hX 1 dX4_deriveDependencies_89 rfl rfl ?_
            refine gx_aload_n hX 0 dX4_deriveDependencies_90 rfl rfl ?_
            refine gx_get hC 0 inlX4 wf_RX4_7 rfl (gM0 hM) rfl rfl rfl rfl dX4_deriveDependencies_91 rfl ?_
            refine gx_iconst (v := 0) hX dX4_deriveDependencies_94 rfl (by decide) ?_
            refine gx_iald (i := 0) hC (gM1 hM) rfl rfl (by omega) rfl dX4_deriveDependencies_95 rfl ?_
            refine gx_topi (b := (nI n)) (by rw [(hrt).1]; exact hr2) ?_
            refine gx_nat_ge (i := t) (j := n) (tgt := 174) hX dX4_deriveDependencies_96 (by decide) rfl rfl rfl (by omega) (by omega) (fun h96 => ?_) (fun h96 => ?_)
            · exact gx_vret hC dX4_deriveDependencies_174 (⟨he, hd, fun c d hc hd2 => qfin hs (by rw [show t = n by omega] at hm; exact hm) c d hc hd2⟩)
            · refine gx_iconst (v := 0) hX dX4_deriveDependencies_99 rfl (by decide) ?_
              refine gx_istore_n (lv' := [(2, .int 0), (0, .ref mo), (1, .int (nI t))]) hX dX4_deriveDependencies_100 rfl (by decide) rfl ?_
              have L101 : ∀ (k101 : Nat) (c1 : Nat) (υ : gS), n - c1 < k101 → (c1 ≤ n) → (gEq Y [19, 21] σ υ) → (∀ c, c < n → υ.1 (gF Y mo 4) c = qdir (qg r n) c) → (qSnd (qg r n) (υ.1 (gF Y mo 6))) → (qCmp (qg r n) (υ.1 (gF Y mo 6)) (qlim t c1 0)) → gG p l e (gRm 4 87) s m args below meth c Y (gV fun τ => gEq Y [19, 21] σ τ ∧ (∀ c, c < n → τ.1 (gF Y mo 4) c = qdir (qg r n) c) ∧ (∀ c d, c < n → d < n → qt (τ.1 (gF Y mo 6) c) d = qall (qg r n) c d)) υ 101 [(0, .ref mo), (1, .int (nI t)), (2, .int (nI c1))] [] := by
                intro k101
                induction k101 with
                | zero => intro c1 υ hk101; exact absurd hk101 (Nat.not_lt_zero _)
                | succ k101 ih101 =>
                  intro c1 υ hk101 hc heu hdu hsu hmu
                  have hru := hr.eq hM heu (by decide)
                  refine gx_iload_n hX 2 dX4_deriveDependencies_101 rfl rfl ?_
                  refine gx_aload_n hX 0 dX4_deriveDependencies_102 rfl rfl ?_
                  refine gx_get hC 0 inlX4 wf_RX4_7 rfl (gM0 hM) rfl rfl rfl rfl dX4_deriveDependencies_103 rfl ?_
                  refine gx_iconst (v := 0) hX dX4_deriveDependencies_106 rfl (by decide) ?_
                  refine gx_iald (i := 0) hC (gM1 hM) rfl rfl (by omega) rfl dX4_deriveDependencies_107 rfl ?_
                  refine gx_topi (b := (nI n)) (by rw [(hru).1]; exact hr2) ?_
                  refine gx_nat_ge (i := c1) (j := n) (tgt := 168) hX dX4_deriveDependencies_108 (by decide) rfl rfl rfl (by omega) (by omega) (fun h108 => ?_) (fun h108 => ?_)
                  · refine gx_iinc (w := (nI (t + 1))) (lv' := [(1, .int (nI (t + 1))), (0, .ref mo), (2, .int (nI c1))]) hX 1 dX4_deriveDependencies_168 rfl rfl (nI_add _ _) (by decide) rfl ?_
                    refine gx_goto (pc' := 89) hX dX4_deriveDependencies_171 (by decide) ?_
                    exact gx_sub [1, 0] rfl (ih89 (t + 1) _ (by omega) (by omega) heu hdu hsu (hmu.le (fun c hc => by rw [show c1 = n by omega]; exact qlim_turn hc)))
                  · refine gx_iconst (v := 0) hX dX4_deriveDependencies_111 rfl (by decide) ?_
                    refine gx_istore_n (lv' := [(3, .int 0), (0, .ref mo), (1, .int (nI t)), (2, .int (nI c1))]) hX dX4_deriveDependencies_112 rfl (by decide) rfl ?_
                    have L113 : ∀ (k113 : Nat) (d : Nat) (ω : gS), n - d < k113 → (d ≤ n) → (gEq Y [19, 21] σ ω) → (∀ c, c < n → ω.1 (gF Y mo 4) c = qdir (qg r n) c) → (qSnd (qg r n) (ω.1 (gF Y mo 6))) → (qCmp (qg r n) (ω.1 (gF Y mo 6)) (qlim t c1 d)) → gG p l e (gRm 4 87) s m args below meth c Y (gV fun τ => gEq Y [19, 21] σ τ ∧ (∀ c, c < n → τ.1 (gF Y mo 4) c = qdir (qg r n) c) ∧ (∀ c d, c < n → d < n → qt (τ.1 (gF Y mo 6) c) d = qall (qg r n) c d)) ω 113 [(0, .ref mo), (1, .int (nI t)), (2, .int (nI c1)), (3, .int (nI d))] [] := by
                      intro k113
                      induction k113 with
                      | zero => intro d ω hk113; exact absurd hk113 (Nat.not_lt_zero _)
                      | succ k113 ih113 =>
                        intro d ω hk113 hd3 heo hdo hso hmo
                        have hro := hr.eq hM heo (by decide)
                        refine gx_iload_n hX 3 dX4_deriveDependencies_113 rfl rfl ?_
                        refine gx_aload_n hX 0 dX4_deriveDependencies_114 rfl rfl ?_
                        refine gx_get hC 0 inlX4 wf_RX4_7 rfl (gM0 hM) rfl rfl rfl rfl dX4_deriveDependencies_115 rfl ?_
                        refine gx_iconst (v := 0) hX dX4_deriveDependencies_118 rfl (by decide) ?_
                        refine gx_iald (i := 0) hC (gM1 hM) rfl rfl (by omega) rfl dX4_deriveDependencies_119 rfl ?_
                        refine gx_topi (b := (nI n)) (by rw [(hro).1]; exact hr2) ?_
                        refine gx_nat_ge (i := d) (j := n) (tgt := 162) hX dX4_deriveDependencies_120 (by decide) rfl rfl rfl (by omega) (by omega) (fun h120 => ?_) (fun h120 => ?_)
                        · refine gx_iinc (w := (nI (c1 + 1))) (lv' := [(2, .int (nI (c1 + 1))), (0, .ref mo), (1, .int (nI t)), (3, .int (nI d))]) hX 2 dX4_deriveDependencies_162 rfl rfl (nI_add _ _) (by decide) rfl ?_
                          refine gx_goto (pc' := 101) hX dX4_deriveDependencies_165 (by decide) ?_
                          exact gx_sub [1, 2, 0] rfl (ih101 (c1 + 1) _ (by omega) (by omega) heo hdo hso (hmo.le (fun c hc => by rw [show d = n by omega]; exact qlim_row h96)))
                        · refine gx_aload_n hX 0 dX4_deriveDependencies_123 rfl rfl ?_
                          refine gx_get hC 6 inlX4 wf_RX4_25 rfl (gM0 hM) rfl rfl rfl rfl dX4_deriveDependencies_124 rfl ?_
                          refine gx_iload_n hX 2 dX4_deriveDependencies_127 rfl rfl ?_
                          refine gx_dup2 hX dX4_deriveDependencies_128 rfl rfl rfl ?_
                          refine gx_iald (i := c1) hC (gM6 hM) rfl rfl (by omega) rfl dX4_deriveDependencies_129 rfl ?_
                          refine gx_aload_n hX 0 dX4_deriveDependencies_130 rfl rfl ?_
                          refine gx_get hC 6 inlX4 wf_RX4_25 rfl (gM0 hM) rfl rfl rfl rfl dX4_deriveDependencies_131 rfl ?_
                          refine gx_iload_n hX 2 dX4_deriveDependencies_134 rfl rfl ?_
                          refine gx_iald (i := c1) hC (gM6 hM) rfl rfl (by omega) rfl dX4_deriveDependencies_135 rfl ?_
                          refine gx_iload_n hX 3 dX4_deriveDependencies_136 rfl rfl ?_
                          refine gx_ishr hX dX4_deriveDependencies_137 rfl ?_
                          refine gx_iconst (v := 1) hX dX4_deriveDependencies_138 rfl (by decide) ?_
                          refine gx_iand hX dX4_deriveDependencies_139 rfl ?_
                          refine gx_iconst (v := 1) hX dX4_deriveDependencies_140 rfl (by decide) ?_
                          refine gx_icmp_ne (tgt := 153) hX dX4_deriveDependencies_141 (by decide) rfl (fun h141 => ?_) (fun h141 => ?_)
                          · refine gx_iconst (v := 0) hX dX4_deriveDependencies_153 rfl (by decide) ?_
                            refine gx_ior hX dX4_deriveDependencies_154 rfl ?_
                            refine gx_topi (b := (ω.1 (gF Y mo 6) c1 ||| (if qt (ω.1 (gF Y mo 6) c1) d = true then ω.1 (gF Y mo 6) d else 0))) (by first | rw [if_pos (qt_iff.mp h141)] | rw [if_neg (fun q => h141 (qt_iff.mpr q))]) ?_
                            refine gx_iast (i := c1) hC (gM6 hM) rfl rfl rfl rfl (by omega) rfl dX4_deriveDependencies_155 rfl ?_
                            refine gx_iinc (w := (nI (d + 1))) (lv' := [(3, .int (nI (d + 1))), (0, .ref mo), (1, .int (nI t)), (2, .int (nI c1))]) hX 3 dX4_deriveDependencies_156 rfl rfl (nI_add _ _) (by decide) rfl ?_
                            refine gx_goto (pc' := 113) hX dX4_deriveDependencies_159 (by decide) ?_
                            have hq := qstep (g := qg r n) (B := ((uI ω (gF Y mo 6) c1 (ω.1 (gF Y mo 6) c1 ||| (if qt (ω.1 (gF Y mo 6) c1) d = true then ω.1 (gF Y mo 6) d else 0)))).1 (gF Y mo 6)) (t := t) (c := c1) (d := d) hr3 h96 h108 h120 (fun c' hc' hne => by simp [uI, hne]) (by simp [uI]) hso hmo
                            exact gx_sub [1, 2, 3, 0] rfl (ih113 (d + 1) _ (by omega) (by omega) (heo.put (gM6 hM) (by decide)) (fun c hc => by rw [uI_ne (gK_ne (gM4 hM) (gM6 hM) (by decide))]; exact hdo c hc) hq.1 hq.2)
                          · refine gx_aload_n hX 0 dX4_deriveDependencies_144 rfl rfl ?_
                            refine gx_get hC 6 inlX4 wf_RX4_25 rfl (gM0 hM) rfl rfl rfl rfl dX4_deriveDependencies_145 rfl ?_
                            refine gx_iload_n hX 3 dX4_deriveDependencies_148 rfl rfl ?_
                            refine gx_iald (i := d) hC (gM6 hM) rfl rfl (by omega) rfl dX4_deriveDependencies_149 rfl ?_
                            refine gx_goto (pc' := 154) hX dX4_deriveDependencies_150 (by decide) ?_
                            refine gx_ior hX dX4_deriveDependencies_154 rfl ?_
                            refine gx_topi (b := (ω.1 (gF Y mo 6) c1 ||| (if qt (ω.1 (gF Y mo 6) c1) d = true then ω.1 (gF Y mo 6) d else 0))) (by first | rw [if_pos (qt_iff.mp h141)] | rw [if_neg (fun q => h141 (qt_iff.mpr q))]) ?_
                            refine gx_iast (i := c1) hC (gM6 hM) rfl rfl rfl rfl (by omega) rfl dX4_deriveDependencies_155 rfl ?_
                            refine gx_iinc (w := (nI (d + 1))) (lv' := [(3, .int (nI (d + 1))), (0, .ref mo), (1, .int (nI t)), (2, .int (nI c1))]) hX 3 dX4_deriveDependencies_156 rfl rfl (nI_add _ _) (by decide) rfl ?_
                            refine gx_goto (pc' := 113) hX dX4_deriveDependencies_159 (by decide) ?_
                            have hq := qstep (g := qg r n) (B := ((uI ω (gF Y mo 6) c1 (ω.1 (gF Y mo 6) c1 ||| (if qt (ω.1 (gF Y mo 6) c1) d = true then ω.1 (gF Y mo 6) d else 0)))).1 (gF Y mo 6)) (t := t) (c := c1) (d := d) hr3 h96 h108 h120 (fun c' hc' hne => by simp [uI, hne]) (by simp [uI]) hso hmo
                            exact gx_sub [1, 2, 3, 0] rfl (ih113 (d + 1) _ (by omega) (by omega) (heo.put (gM6 hM) (by decide)) (fun c hc => by rw [uI_ne (gK_ne (gM4 hM) (gM6 hM) (by decide))]; exact hdo c hc) hq.1 hq.2)
                    exact gx_sub [1, 2, 3, 0] rfl (L113 (n + 1) 0 _ (by omega) (by omega) heu hdu hsu hmu)
              exact gx_sub [1, 2, 0] rfl (L101 (n + 1) 0 _ (by omega) (by omega) he hd hs hm)
        have hq0 := qini (g := qg r n) (A := τ.1 (gF Y mo 6)) (fun c hc => ha c (by have e : qn (qg r n) = n := rfl; omega))
        exact gx_sub [1, 0] rfl (L89 (n + 1) 0 τ (by omega) (by omega) he (fun c hc => hd c (by omega)) hq0.1 hq0.2)
      · refine gx_aload_n hX 0 dX4_deriveDependencies_12 rfl rfl ?_
        refine gx_aload_n hX 0 dX4_deriveDependencies_13 rfl rfl ?_
        refine gx_iload_n hX 1 dX4_deriveDependencies_14 rfl rfl ?_
        refine gx_iconst (v := 2) hX dX4_deriveDependencies_15 rfl (by decide) ?_
        refine gx_callV (As := [.int (nI i), .int 2]) (st := [.ref mo]) hC (c_X4_get l Y mo τ r i 2 hM hrt.1 (by omega)) kX4_get wm_RX4_50 rfl (gM0 hM) rfl rfl rfl rfl rfl dX4_deriveDependencies_16 rfl (gx_ki fun r16 τ16 hq16 => ?_)
        obtain ⟨rfl, rfl⟩ := hq16
        refine gx_callV (As := [.int (r (17 + 10 * i + 2))]) (st := []) hC (c_X4_source l Y mo τ r n hM hrt (r (17 + 10 * i + 2))) kX4_source wm_RX4_60 rfl (gM0 hM) rfl rfl rfl rfl rfl dX4_deriveDependencies_19 rfl (gx_ki fun r19 τ19 hq19 => ?_)
        obtain ⟨rfl, ⟨rfl, hb19⟩ | ⟨rfl, hb19⟩⟩ := hq19
        · refine gx_istore_n (lv' := [(2, .int (nI (qsrc (qg r n) (r (17 + 10 * i + 2))))), (0, .ref mo), (1, .int (nI i))]) hX dX4_deriveDependencies_22 rfl (by decide) rfl ?_
          refine gx_aload_n hX 1 dX4_deriveDependencies_23 rfl rfl ?_
          refine gx_aload_n hX 1 dX4_deriveDependencies_24 rfl rfl ?_
          refine gx_iload_n hX 2 dX4_deriveDependencies_25 rfl rfl ?_
          refine gx_iconst (v := 3) hX dX4_deriveDependencies_26 rfl (by decide) ?_
          refine gx_callV (As := [.int (nI i), .int 3]) (st := [.ref mo]) hC (c_X4_get l Y mo τ r i 3 hM hrt.1 (by omega)) kX4_get wm_RX4_50 rfl (gM0 hM) rfl rfl rfl rfl rfl dX4_deriveDependencies_27 rfl (gx_ki fun r27 τ27 hq27 => ?_)
          obtain ⟨rfl, rfl⟩ := hq27
          refine gx_callV (As := [.int (r (17 + 10 * i + 3))]) (st := []) hC (c_X4_source l Y mo τ r n hM hrt (r (17 + 10 * i + 3))) kX4_source wm_RX4_60 rfl (gM0 hM) rfl rfl rfl rfl rfl dX4_deriveDependencies_30 rfl (gx_ki fun r30 τ30 hq30 => ?_)
          obtain ⟨rfl, ⟨rfl, hb30⟩ | ⟨rfl, hb30⟩⟩ := hq30
          · refine gx_istore_n (lv' := [(3, .int (nI (qsrc (qg r n) (r (17 + 10 * i + 3))))), (2, .int (nI (qsrc (qg r n) (r (17 + 10 * i + 2))))), (0, .ref mo), (1, .int (nI i))]) hX dX4_deriveDependencies_33 rfl (by decide) rfl ?_
            refine gx_aload_n hX 2 dX4_deriveDependencies_34 rfl rfl ?_
            refine gx_get hC 4 inlX4 wf_RX4_19 rfl (gM0 hM) rfl rfl rfl rfl dX4_deriveDependencies_35 rfl ?_
            refine gx_iload_n hX 3 dX4_deriveDependencies_38 rfl rfl ?_
            refine gx_iload_n hX 1 dX4_deriveDependencies_39 rfl rfl ?_
            refine gx_sipush (v := (-10001)) hX dX4_deriveDependencies_40 rfl (by decide) ?_
            refine gx_icmp_ne_t (tgt := 50) hX dX4_deriveDependencies_43 (by decide) (nI_neg (by omega) (by decide)) ?_
            refine gx_iconst (v := 1) hX dX4_deriveDependencies_50 rfl (by decide) ?_
            refine gx_iload_n hX 1 dX4_deriveDependencies_51 rfl rfl ?_
            refine gx_ishl hX dX4_deriveDependencies_52 rfl ?_
            refine gx_iload_n hX 0 dX4_deriveDependencies_53 rfl rfl ?_
            refine gx_sipush (v := (-10001)) hX dX4_deriveDependencies_54 rfl (by decide) ?_
            refine gx_icmp_ne_t (tgt := 64) hX dX4_deriveDependencies_57 (by decide) (nI_neg (by omega) (by decide)) ?_
            refine gx_iconst (v := 1) hX dX4_deriveDependencies_64 rfl (by decide) ?_
            refine gx_iload_n hX 0 dX4_deriveDependencies_65 rfl rfl ?_
            refine gx_ishl hX dX4_deriveDependencies_66 rfl ?_
            refine gx_ior hX dX4_deriveDependencies_67 rfl ?_
            refine gx_topi (b := (qdir (qg r n) i)) (by show _ = qdo (qg r n) (r (17 + 10 * i + 2)) ||| qdo (qg r n) (r (17 + 10 * i + 3)); first | rw [qdo_yes hb19, qdo_yes hb30] | rw [qdo_yes hb19, qdo_no hb30] | rw [qdo_no hb19, qdo_yes hb30] | rw [qdo_no hb19, qdo_no hb30]) ?_
            refine gx_iast (i := i) hC (gM4 hM) rfl rfl rfl rfl (by omega) rfl dX4_deriveDependencies_68 rfl ?_
            refine gx_aload_n hX 2 dX4_deriveDependencies_69 rfl rfl ?_
            refine gx_get hC 6 inlX4 wf_RX4_25 rfl (gM0 hM) rfl rfl rfl rfl dX4_deriveDependencies_70 rfl ?_
            refine gx_iload_n hX 3 dX4_deriveDependencies_73 rfl rfl ?_
            refine gx_aload_n hX 2 dX4_deriveDependencies_74 rfl rfl ?_
            refine gx_get hC 4 inlX4 wf_RX4_19 rfl (gM0 hM) rfl rfl rfl rfl dX4_deriveDependencies_75 rfl ?_
            refine gx_iload_n hX 3 dX4_deriveDependencies_78 rfl rfl ?_
            refine gx_iald (i := i) hC (gM4 hM) rfl rfl (by omega) rfl dX4_deriveDependencies_79 rfl ?_
            refine gx_topi (b := (qdir (qg r n) i)) (by simp [uI]) ?_
            refine gx_iast (i := i) hC (gM6 hM) rfl rfl rfl rfl (by omega) rfl dX4_deriveDependencies_80 rfl ?_
            refine gx_iinc (w := (nI (i + 1))) (lv' := [(1, .int (nI (i + 1))), (3, .int (nI (qsrc (qg r n) (r (17 + 10 * i + 3))))), (2, .int (nI (qsrc (qg r n) (r (17 + 10 * i + 2))))), (0, .ref mo)]) hX 3 dX4_deriveDependencies_81 rfl rfl (nI_add _ _) (by decide) rfl ?_
            refine gx_goto (pc' := 2) hX dX4_deriveDependencies_84 (by decide) ?_
            exact gx_sub [3, 0] rfl (ih2 (i + 1) _ (by omega) (by omega) ((he.put (gM4 hM) (by decide)).put (gM6 hM) (by decide)) (fun c hc => by rw [uI_ne (gK_ne (gM4 hM) (gM6 hM) (by decide))]; exact uI_rng hd rfl c hc) (fun c hc => uI_rng (fun c hc => by rw [uI_ne (gK_ne (gM4 hM) (gM6 hM) (by decide)).symm]; exact ha c hc) rfl c hc))
          · refine gx_istore_n (lv' := [(3, .int (-10001)), (2, .int (nI (qsrc (qg r n) (r (17 + 10 * i + 2))))), (0, .ref mo), (1, .int (nI i))]) hX dX4_deriveDependencies_33 rfl (by decide) rfl ?_
            refine gx_aload_n hX 2 dX4_deriveDependencies_34 rfl rfl ?_
            refine gx_get hC 4 inlX4 wf_RX4_19 rfl (gM0 hM) rfl rfl rfl rfl dX4_deriveDependencies_35 rfl ?_
            refine gx_iload_n hX 3 dX4_deriveDependencies_38 rfl rfl ?_
            refine gx_iload_n hX 1 dX4_deriveDependencies_39 rfl rfl ?_
            refine gx_sipush (v := (-10001)) hX dX4_deriveDependencies_40 rfl (by decide) ?_
            refine gx_icmp_ne_t (tgt := 50) hX dX4_deriveDependencies_43 (by decide) (nI_neg (by omega) (by decide)) ?_
            refine gx_iconst (v := 1) hX dX4_deriveDependencies_50 rfl (by decide) ?_
            refine gx_iload_n hX 1 dX4_deriveDependencies_51 rfl rfl ?_
            refine gx_ishl hX dX4_deriveDependencies_52 rfl ?_
            refine gx_iload_n hX 0 dX4_deriveDependencies_53 rfl rfl ?_
            refine gx_sipush (v := (-10001)) hX dX4_deriveDependencies_54 rfl (by decide) ?_
            refine gx_icmp_ne_f (tgt := 64) hX dX4_deriveDependencies_57 (by decide) rfl (by decide) ?_
            refine gx_iconst (v := 0) hX dX4_deriveDependencies_60 rfl (by decide) ?_
            refine gx_goto (pc' := 67) hX dX4_deriveDependencies_61 (by decide) ?_
            refine gx_ior hX dX4_deriveDependencies_67 rfl ?_
            refine gx_topi (b := (qdir (qg r n) i)) (by show _ = qdo (qg r n) (r (17 + 10 * i + 2)) ||| qdo (qg r n) (r (17 + 10 * i + 3)); first | rw [qdo_yes hb19, qdo_yes hb30] | rw [qdo_yes hb19, qdo_no hb30] | rw [qdo_no hb19, qdo_yes hb30] | rw [qdo_no hb19, qdo_no hb30]) ?_
            refine gx_iast (i := i) hC (gM4 hM) rfl rfl rfl rfl (by omega) rfl dX4_deriveDependencies_68 rfl ?_
            refine gx_aload_n hX 2 dX4_deriveDependencies_69 rfl rfl ?_
            refine gx_get hC 6 inlX4 wf_RX4_25 rfl (gM0 hM) rfl rfl rfl rfl dX4_deriveDependencies_70 rfl ?_
            refine gx_iload_n hX 3 dX4_deriveDependencies_73 rfl rfl ?_
            refine gx_aload_n hX 2 dX4_deriveDependencies_74 rfl rfl ?_
            refine gx_get hC 4 inlX4 wf_RX4_19 rfl (gM0 hM) rfl rfl rfl rfl dX4_deriveDependencies_75 rfl ?_
            refine gx_iload_n hX 3 dX4_deriveDependencies_78 rfl rfl ?_
            refine gx_iald (i := i) hC (gM4 hM) rfl rfl (by omega) rfl dX4_deriveDependencies_79 rfl ?_
            refine gx_topi (b := (qdir (qg r n) i)) (by simp [uI]) ?_
            refine gx_iast (i := i) hC (gM6 hM) rfl rfl rfl rfl (by omega) rfl dX4_deriveDependencies_80 rfl ?_
            refine gx_iinc (w := (nI (i + 1))) (lv' := [(1, .int (nI (i + 1))), (3, .int (-10001)), (2, .int (nI (qsrc (qg r n) (r (17 + 10 * i + 2))))), (0, .ref mo)]) hX 3 dX4_deriveDependencies_81 rfl rfl (nI_add _ _) (by decide) rfl ?_
            refine gx_goto (pc' := 2) hX dX4_deriveDependencies_84 (by decide) ?_
            exact gx_sub [3, 0] rfl (ih2 (i + 1) _ (by omega) (by omega) ((he.put (gM4 hM) (by decide)).put (gM6 hM) (by decide)) (fun c hc => by rw [uI_ne (gK_ne (gM4 hM) (gM6 hM) (by decide))]; exact uI_rng hd rfl c hc) (fun c hc => uI_rng (fun c hc => by rw [uI_ne (gK_ne (gM4 hM) (gM6 hM) (by decide)).symm]; exact ha c hc) rfl c hc))
        · refine gx_istore_n (lv' := [(2, .int (-10001)), (0, .ref mo), (1, .int (nI i))]) hX dX4_deriveDependencies_22 rfl (by decide) rfl ?_
          refine gx_aload_n hX 1 dX4_deriveDependencies_23 rfl rfl ?_
          refine gx_aload_n hX 1 dX4_deriveDependencies_24 rfl rfl ?_
          refine gx_iload_n hX 2 dX4_deriveDependencies_25 rfl rfl ?_
          refine gx_iconst (v := 3) hX dX4_deriveDependencies_26 rfl (by decide) ?_
          refine gx_callV (As := [.int (nI i), .int 3]) (st := [.ref mo]) hC (c_X4_get l Y mo τ r i 3 hM hrt.1 (by omega)) kX4_get wm_RX4_50 rfl (gM0 hM) rfl rfl rfl rfl rfl dX4_deriveDependencies_27 rfl (gx_ki fun r27 τ27 hq27 => ?_)
          obtain ⟨rfl, rfl⟩ := hq27
          refine gx_callV (As := [.int (r (17 + 10 * i + 3))]) (st := []) hC (c_X4_source l Y mo τ r n hM hrt (r (17 + 10 * i + 3))) kX4_source wm_RX4_60 rfl (gM0 hM) rfl rfl rfl rfl rfl dX4_deriveDependencies_30 rfl (gx_ki fun r30 τ30 hq30 => ?_)
          obtain ⟨rfl, ⟨rfl, hb30⟩ | ⟨rfl, hb30⟩⟩ := hq30
          · refine gx_istore_n (lv' := [(3, .int (nI (qsrc (qg r n) (r (17 + 10 * i + 3))))), (2, .int (-10001)), (0, .ref mo), (1, .int (nI i))]) hX dX4_deriveDependencies_33 rfl (by decide) rfl ?_
            refine gx_aload_n hX 2 dX4_deriveDependencies_34 rfl rfl ?_
            refine gx_get hC 4 inlX4 wf_RX4_19 rfl (gM0 hM) rfl rfl rfl rfl dX4_deriveDependencies_35 rfl ?_
            refine gx_iload_n hX 3 dX4_deriveDependencies_38 rfl rfl ?_
            refine gx_iload_n hX 1 dX4_deriveDependencies_39 rfl rfl ?_
            refine gx_sipush (v := (-10001)) hX dX4_deriveDependencies_40 rfl (by decide) ?_
            refine gx_icmp_ne_f (tgt := 50) hX dX4_deriveDependencies_43 (by decide) rfl (by decide) ?_
            refine gx_iconst (v := 0) hX dX4_deriveDependencies_46 rfl (by decide) ?_
            refine gx_goto (pc' := 53) hX dX4_deriveDependencies_47 (by decide) ?_
            refine gx_iload_n hX 0 dX4_deriveDependencies_53 rfl rfl ?_
            refine gx_sipush (v := (-10001)) hX dX4_deriveDependencies_54 rfl (by decide) ?_
            refine gx_icmp_ne_t (tgt := 64) hX dX4_deriveDependencies_57 (by decide) (nI_neg (by omega) (by decide)) ?_
            refine gx_iconst (v := 1) hX dX4_deriveDependencies_64 rfl (by decide) ?_
            refine gx_iload_n hX 0 dX4_deriveDependencies_65 rfl rfl ?_
            refine gx_ishl hX dX4_deriveDependencies_66 rfl ?_
            refine gx_ior hX dX4_deriveDependencies_67 rfl ?_
            refine gx_topi (b := (qdir (qg r n) i)) (by show _ = qdo (qg r n) (r (17 + 10 * i + 2)) ||| qdo (qg r n) (r (17 + 10 * i + 3)); first | rw [qdo_yes hb19, qdo_yes hb30] | rw [qdo_yes hb19, qdo_no hb30] | rw [qdo_no hb19, qdo_yes hb30] | rw [qdo_no hb19, qdo_no hb30]) ?_
            refine gx_iast (i := i) hC (gM4 hM) rfl rfl rfl rfl (by omega) rfl dX4_deriveDependencies_68 rfl ?_
            refine gx_aload_n hX 2 dX4_deriveDependencies_69 rfl rfl ?_
            refine gx_get hC 6 inlX4 wf_RX4_25 rfl (gM0 hM) rfl rfl rfl rfl dX4_deriveDependencies_70 rfl ?_
            refine gx_iload_n hX 3 dX4_deriveDependencies_73 rfl rfl ?_
            refine gx_aload_n hX 2 dX4_deriveDependencies_74 rfl rfl ?_
            refine gx_get hC 4 inlX4 wf_RX4_19 rfl (gM0 hM) rfl rfl rfl rfl dX4_deriveDependencies_75 rfl ?_
            refine gx_iload_n hX 3 dX4_deriveDependencies_78 rfl rfl ?_
            refine gx_iald (i := i) hC (gM4 hM) rfl rfl (by omega) rfl dX4_deriveDependencies_79 rfl ?_
            refine gx_topi (b := (qdir (qg r n) i)) (by simp [uI]) ?_
            refine gx_iast (i := i) hC (gM6 hM) rfl rfl rfl rfl (by omega) rfl dX4_deriveDependencies_80 rfl ?_
            refine gx_iinc (w := (nI (i + 1))) (lv' := [(1, .int (nI (i + 1))), (3, .int (nI (qsrc (qg r n) (r (17 + 10 * i + 3))))), (2, .int (-10001)), (0, .ref mo)]) hX 3 dX4_deriveDependencies_81 rfl rfl (nI_add _ _) (by decide) rfl ?_
            refine gx_goto (pc' := 2) hX dX4_deriveDependencies_84 (by decide) ?_
            exact gx_sub [3, 0] rfl (ih2 (i + 1) _ (by omega) (by omega) ((he.put (gM4 hM) (by decide)).put (gM6 hM) (by decide)) (fun c hc => by rw [uI_ne (gK_ne (gM4 hM) (gM6 hM) (by decide))]; exact uI_rng hd rfl c hc) (fun c hc => uI_rng (fun c hc => by rw [uI_ne (gK_ne (gM4 hM) (gM6 hM) (by decide)).symm]; exact ha c hc) rfl c hc))
          · refine gx_istore_n (lv' := [(3, .int (-10001)), (2, .int (-10001)), (0, .ref mo), (1, .int (nI i))]) hX dX4_deriveDependencies_33 rfl (by decide) rfl ?_
            refine gx_aload_n hX 2 dX4_deriveDependencies_34 rfl rfl ?_
            refine gx_get hC 4 inlX4 wf_RX4_19 rfl (gM0 hM) rfl rfl rfl rfl dX4_deriveDependencies_35 rfl ?_
            refine gx_iload_n hX 3 dX4_deriveDependencies_38 rfl rfl ?_
            refine gx_iload_n hX 1 dX4_deriveDependencies_39 rfl rfl ?_
            refine gx_sipush (v := (-10001)) hX dX4_deriveDependencies_40 rfl (by decide) ?_
            refine gx_icmp_ne_f (tgt := 50) hX dX4_deriveDependencies_43 (by decide) rfl (by decide) ?_
            refine gx_iconst (v := 0) hX dX4_deriveDependencies_46 rfl (by decide) ?_
            refine gx_goto (pc' := 53) hX dX4_deriveDependencies_47 (by decide) ?_
            refine gx_iload_n hX 0 dX4_deriveDependencies_53 rfl rfl ?_
            refine gx_sipush (v := (-10001)) hX dX4_deriveDependencies_54 rfl (by decide) ?_
            refine gx_icmp_ne_f (tgt := 64) hX dX4_deriveDependencies_57 (by decide) rfl (by decide) ?_
            refine gx_iconst (v := 0) hX dX4_deriveDependencies_60 rfl (by decide) ?_
            refine gx_goto (pc' := 67) hX dX4_deriveDependencies_61 (by decide) ?_
            refine gx_ior hX dX4_deriveDependencies_67 rfl ?_
            refine gx_topi (b := (qdir (qg r n) i)) (by show _ = qdo (qg r n) (r (17 + 10 * i + 2)) ||| qdo (qg r n) (r (17 + 10 * i + 3)); first | rw [qdo_yes hb19, qdo_yes hb30] | rw [qdo_yes hb19, qdo_no hb30] | rw [qdo_no hb19, qdo_yes hb30] | rw [qdo_no hb19, qdo_no hb30]) ?_
            refine gx_iast (i := i) hC (gM4 hM) rfl rfl rfl rfl (by omega) rfl dX4_deriveDependencies_68 rfl ?_
            refine gx_aload_n hX 2 dX4_deriveDependencies_69 rfl rfl ?_
            refine gx_get hC 6 inlX4 wf_RX4_25 rfl (gM0 hM) rfl rfl rfl rfl dX4_deriveDependencies_70 rfl ?_
            refine gx_iload_n hX 3 dX4_deriveDependencies_73 rfl rfl ?_
            refine gx_aload_n hX 2 dX4_deriveDependencies_74 rfl rfl ?_
            refine gx_get hC 4 inlX4 wf_RX4_19 rfl (gM0 hM) rfl rfl rfl rfl dX4_deriveDependencies_75 rfl ?_
            refine gx_iload_n hX 3 dX4_deriveDependencies_78 rfl rfl ?_
            refine gx_iald (i := i) hC (gM4 hM) rfl rfl (by omega) rfl dX4_deriveDependencies_79 rfl ?_
            refine gx_topi (b := (qdir (qg r n) i)) (by simp [uI]) ?_
            refine gx_iast (i := i) hC (gM6 hM) rfl rfl rfl rfl (by omega) rfl dX4_deriveDependencies_80 rfl ?_
            refine gx_iinc (w := (nI (i + 1))) (lv' := [(1, .int (nI (i + 1))), (3, .int (-10001)), (2, .int (-10001)), (0, .ref mo)]) hX 3 dX4_deriveDependencies_81 rfl rfl (nI_add _ _) (by decide) rfl ?_
            refine gx_goto (pc' := 2) hX dX4_deriveDependencies_84 (by decide) ?_
            exact gx_sub [3, 0] rfl (ih2 (i + 1) _ (by omega) (by omega) ((he.put (gM4 hM) (by decide)).put (gM6 hM) (by decide)) (fun c hc => by rw [uI_ne (gK_ne (gM4 hM) (gM6 hM) (by decide))]; exact uI_rng hd rfl c hc) (fun c hc => uI_rng (fun c hc => by rw [uI_ne (gK_ne (gM4 hM) (gM6 hM) (by decide)).symm]; exact ha c hc) rfl c hc))
  exact gx_sub [1, 0] rfl (L2 (n + 1) 0 σ (by omega) (by omega) gEq.rf (fun c hc => absurd hc (Nat.not_lt_zero c)) (fun c hc => absurd hc (Nat.not_lt_zero c)))
