set_option maxRecDepth 100000 in
set_option maxHeartbeats 4000000 in
theorem c_X4_isKnown (l : Launch) (Y : gL) (mo : Nat) (σ : gS) (r : Nat → Int32) (n : Nat) (hM : gLM Y mo) (hr : gRow Y mo σ r n) (fr : Nat → Bool) (hfr : ∀ d, d < n → σ.1 (gF Y mo 9) d = if fr d = true then 1 else 0) (x seen : Int32) (hsrc : ¬ x < 100 → qsrc (qg r n) x < 12) : gM l yX4_isKnown cX4_isKnown 4 (some .boolean) (gRm 4 87) Y [.ref mo, .int x, .int seen] σ (gI fun v τ => σ = τ ∧ ((v = 1 ∧ qkn (qg r n) r fr x seen = true) ∨ (v = 0 ∧ ¬ qkn (qg r n) r fr x seen = true))) := by
  have hr1 := hr.1
  have hr2 := hr.2.1
  have hr3 := hr.2.2
  refine gM.of (by decide) rfl ?_
  intro p e s m args below meth c hC
  have hX := hC.1
  refine gx_iload_n hX 1 dX4_isKnown_0 rfl rfl ?_
  refine gx_bipush (v := 100) hX dX4_isKnown_1 rfl (by decide) ?_
  refine gx_icmp_ge (tgt := 8) hX dX4_isKnown_3 (by decide) rfl (fun h3 => ?_) (fun h3 => ?_)
  · refine gx_aload_n hX 0 dX4_isKnown_8 rfl rfl ?_
    refine gx_iload_n hX 1 dX4_isKnown_9 rfl rfl ?_
    refine gx_callV (As := [.int x]) (st := []) hC (c_X4_source l Y mo σ r n hM hr x) kX4_source wm_RX4_60 rfl (gM0 hM) rfl rfl rfl rfl rfl dX4_isKnown_10 rfl (gx_ki fun r10 τ10 hq10 => ?_)
    obtain ⟨rfl, ⟨rfl, hb10⟩ | ⟨rfl, hb10⟩⟩ := hq10
    · have hx := qge100.mp h3
      have hsn : qsrc (qg r n) x < n := qsrc_lt (g := qg r n) hr3 hb10
      refine gx_istore_n (lv' := [(3, .int (nI (qsrc (qg r n) x))), (0, .ref mo), (1, .int x), (2, .int seen)]) hX dX4_isKnown_13 rfl (by decide) rfl ?_
      refine gx_aload_n hX 1 dX4_isKnown_14 rfl rfl ?_
      refine gx_get hC 9 inlX4 wf_RX4_31 rfl (gM0 hM) rfl rfl rfl rfl dX4_isKnown_15 rfl ?_
      refine gx_iload_n hX 0 dX4_isKnown_18 rfl rfl ?_
      refine gx_zald (i := qsrc (qg r n) x) hC (gM9 hM) rfl rfl (by omega) rfl dX4_isKnown_19 rfl ?_
      refine gx_if_eq (tgt := 37) hX dX4_isKnown_20 (by decide) rfl (fun h20 => ?_) (fun h20 => ?_)
      · have hf := qfr_f (hfr _ hsn) h20
        refine gx_iconst (v := 0) hX dX4_isKnown_37 rfl (by decide) ?_
        exact gx_zret hC rfl dX4_isKnown_38 (⟨rfl, Or.inr ⟨rfl, by unfold qkn; rw [decide_eq_false hx, hf]; first | (rw [decide_eq_false h30]; simp) | simp⟩⟩)
      · have hf := qfr_t (hfr _ hsn) h20
        refine gx_aload_n hX 1 dX4_isKnown_23 rfl rfl ?_
        refine gx_iload_n hX 0 dX4_isKnown_24 rfl rfl ?_
        refine gx_iconst (v := 5) hX dX4_isKnown_25 rfl (by decide) ?_
        refine gx_callV (As := [.int (nI (qsrc (qg r n) x)), .int 5]) (st := []) hC (c_X4_get l Y mo σ r (qsrc (qg r n) x) 5 hM hr.1 (by omega)) kX4_get wm_RX4_50 rfl (gM0 hM) rfl rfl rfl rfl rfl dX4_isKnown_26 rfl (gx_ki fun r26 τ26 hq26 => ?_)
        obtain ⟨rfl, rfl⟩ := hq26
        refine gx_iload_n hX 3 dX4_isKnown_29 rfl rfl ?_
        refine gx_icmp_ne (tgt := 37) hX dX4_isKnown_30 (by decide) rfl (fun h30 => ?_) (fun h30 => ?_)
        · refine gx_iconst (v := 0) hX dX4_isKnown_37 rfl (by decide) ?_
          exact gx_zret hC rfl dX4_isKnown_38 (⟨rfl, Or.inr ⟨rfl, by unfold qkn; rw [decide_eq_false hx, hf]; first | (rw [decide_eq_false h30]; simp) | simp⟩⟩)
        · refine gx_iconst (v := 1) hX dX4_isKnown_33 rfl (by decide) ?_
          refine gx_goto (pc' := 38) hX dX4_isKnown_34 (by decide) ?_
          exact gx_zret hC rfl dX4_isKnown_38 (⟨rfl, Or.inl ⟨rfl, by unfold qkn; rw [decide_eq_false hx, hf, decide_eq_true h30]; rfl⟩⟩)
    · exact absurd (hsrc (qge100.mp h3)) (by omega)
  · refine gx_iconst (v := 1) hX dX4_isKnown_6 rfl (by decide) ?_
    exact gx_zret hC rfl dX4_isKnown_7 (⟨rfl, Or.inl ⟨rfl, by unfold qkn; rw [decide_eq_true (Decidable.not_not.mp (fun q => h3 (qge100.mpr q)))]; rfl⟩⟩)

set_option maxRecDepth 100000 in
set_option maxHeartbeats 4000000 in
theorem c_X4_isFreshNow (l : Launch) (Y : gL) (mo : Nat) (σ : gS) (r : Nat → Int32) (n : Nat) (hM : gLM Y mo) (hr : gRow Y mo σ r n) (fr : Nat → Bool) (hfr : ∀ d, d < n → σ.1 (gF Y mo 9) d = if fr d = true then 1 else 0) (i : Nat) (hi : i < n) (hsl : ¬ r (17 + 10 * i + 2) < 100 → qsrc (qg r n) (r (17 + 10 * i + 2)) < 12) (hsr : ¬ r (17 + 10 * i + 3) < 100 → qsrc (qg r n) (r (17 + 10 * i + 3)) < 12) : gM l yX4_isFreshNow cX4_isFreshNow 2 (some .boolean) (gRm 5 110) Y [.ref mo, .int (nI i)] σ (gI fun v τ => σ = τ ∧ ((v = 1 ∧ qfn (qg r n) r fr i = true) ∨ (v = 0 ∧ ¬ qfn (qg r n) r fr i = true))) := by
  have hr1 := hr.1
  have hr2 := hr.2.1
  have hr3 := hr.2.2
  refine gM.of (by decide) rfl ?_
  intro p e s m args below meth c hC
  have hX := hC.1
  refine gx_aload_n hX 0 dX4_isFreshNow_0 rfl rfl ?_
  refine gx_iload_n hX 1 dX4_isFreshNow_1 rfl rfl ?_
  refine gx_iconst (v := 5) hX dX4_isFreshNow_2 rfl (by decide) ?_
  refine gx_callV (As := [.int (nI i), .int 5]) (st := []) hC (c_X4_get l Y mo σ r i 5 hM hr.1 (by omega)) kX4_get wm_RX4_50 rfl (gM0 hM) rfl rfl rfl rfl rfl dX4_isFreshNow_3 rfl (gx_ki fun r3 τ3 hq3 => ?_)
  obtain ⟨rfl, rfl⟩ := hq3
  refine gx_if_le (tgt := 53) hX dX4_isFreshNow_6 (by decide) rfl (fun h6 => ?_) (fun h6 => ?_)
  · refine gx_iconst (v := 0) hX dX4_isFreshNow_53 rfl (by decide) ?_
    exact gx_zret hC rfl dX4_isFreshNow_54 (⟨rfl, Or.inr ⟨rfl, by unfold qfn; first | (rw [decide_eq_false (Int32.not_lt.mpr h6)]; simp) | (intro q; simp only [Bool.and_eq_true] at q; first | exact hb23 q.2.1 | exact hb43 q.2.2)⟩⟩)
  · refine gx_aload_n hX 0 dX4_isFreshNow_9 rfl rfl ?_
    refine gx_aload_n hX 0 dX4_isFreshNow_10 rfl rfl ?_
    refine gx_iload_n hX 1 dX4_isFreshNow_11 rfl rfl ?_
    refine gx_iconst (v := 2) hX dX4_isFreshNow_12 rfl (by decide) ?_
    refine gx_callV (As := [.int (nI i), .int 2]) (st := [.ref mo]) hC (c_X4_get l Y mo σ r i 2 hM hr.1 (by omega)) kX4_get wm_RX4_50 rfl (gM0 hM) rfl rfl rfl rfl rfl dX4_isFreshNow_13 rfl (gx_ki fun r13 τ13 hq13 => ?_)
    obtain ⟨rfl, rfl⟩ := hq13
    refine gx_aload_n hX 0 dX4_isFreshNow_16 rfl rfl ?_
    refine gx_iload_n hX 1 dX4_isFreshNow_17 rfl rfl ?_
    refine gx_bipush (v := 6) hX dX4_isFreshNow_18 rfl (by decide) ?_
    refine gx_callV (As := [.int (nI i), .int 6]) (st := [.int (r (17 + 10 * i + 2)), .ref mo]) hC (c_X4_get l Y mo σ r i 6 hM hr.1 (by omega)) kX4_get wm_RX4_50 rfl (gM0 hM) rfl rfl rfl rfl rfl dX4_isFreshNow_20 rfl (gx_ki fun r20 τ20 hq20 => ?_)
    obtain ⟨rfl, rfl⟩ := hq20
    refine gx_callV (As := [.int (r (17 + 10 * i + 2)), .int (r (17 + 10 * i + 6))]) (st := []) hC (c_X4_isKnown l Y mo σ r n hM hr fr hfr (r (17 + 10 * i + 2)) (r (17 + 10 * i + 6)) hsl) kX4_isKnown wm_RX4_73 rfl (gM0 hM) rfl rfl rfl rfl rfl dX4_isFreshNow_23 rfl (gx_ki fun r23 τ23 hq23 => ?_)
    obtain ⟨rfl, ⟨rfl, hb23⟩ | ⟨rfl, hb23⟩⟩ := hq23
    · refine gx_if_eq_f (tgt := 53) hX dX4_isFreshNow_26 (by decide) rfl (by decide) ?_
      refine gx_aload_n hX 0 dX4_isFreshNow_29 rfl rfl ?_
      refine gx_aload_n hX 0 dX4_isFreshNow_30 rfl rfl ?_
      refine gx_iload_n hX 1 dX4_isFreshNow_31 rfl rfl ?_
      refine gx_iconst (v := 3) hX dX4_isFreshNow_32 rfl (by decide) ?_
      refine gx_callV (As := [.int (nI i), .int 3]) (st := [.ref mo]) hC (c_X4_get l Y mo σ r i 3 hM hr.1 (by omega)) kX4_get wm_RX4_50 rfl (gM0 hM) rfl rfl rfl rfl rfl dX4_isFreshNow_33 rfl (gx_ki fun r33 τ33 hq33 => ?_)
      obtain ⟨rfl, rfl⟩ := hq33
      refine gx_aload_n hX 0 dX4_isFreshNow_36 rfl rfl ?_
      refine gx_iload_n hX 1 dX4_isFreshNow_37 rfl rfl ?_
      refine gx_bipush (v := 7) hX dX4_isFreshNow_38 rfl (by decide) ?_
      refine gx_callV (As := [.int (nI i), .int 7]) (st := [.int (r (17 + 10 * i + 3)), .ref mo]) hC (c_X4_get l Y mo σ r i 7 hM hr.1 (by omega)) kX4_get wm_RX4_50 rfl (gM0 hM) rfl rfl rfl rfl rfl dX4_isFreshNow_40 rfl (gx_ki fun r40 τ40 hq40 => ?_)
      obtain ⟨rfl, rfl⟩ := hq40
      refine gx_callV (As := [.int (r (17 + 10 * i + 3)), .int (r (17 + 10 * i + 7))]) (st := []) hC (c_X4_isKnown l Y mo σ r n hM hr fr hfr (r (17 + 10 * i + 3)) (r (17 + 10 * i + 7)) hsr) kX4_isKnown wm_RX4_73 rfl (gM0 hM) rfl rfl rfl rfl rfl dX4_isFreshNow_43 rfl (gx_ki fun r43 τ43 hq43 => ?_)
      obtain ⟨rfl, ⟨rfl, hb43⟩ | ⟨rfl, hb43⟩⟩ := hq43
      · refine gx_if_eq_f (tgt := 53) hX dX4_isFreshNow_46 (by decide) rfl (by decide) ?_
        refine gx_iconst (v := 1) hX dX4_isFreshNow_49 rfl (by decide) ?_
        refine gx_goto (pc' := 54) hX dX4_isFreshNow_50 (by decide) ?_
        exact gx_zret hC rfl dX4_isFreshNow_54 (⟨rfl, Or.inl ⟨rfl, by unfold qfn; rw [decide_eq_true (Int32.not_le.mp h6), hb23, hb43]; rfl⟩⟩)
      · refine gx_if_eq_t (tgt := 53) hX dX4_isFreshNow_46 (by decide) (by decide) ?_
        refine gx_iconst (v := 0) hX dX4_isFreshNow_53 rfl (by decide) ?_
        exact gx_zret hC rfl dX4_isFreshNow_54 (⟨rfl, Or.inr ⟨rfl, by unfold qfn; first | (rw [decide_eq_false (Int32.not_lt.mpr h6)]; simp) | (intro q; simp only [Bool.and_eq_true] at q; first | exact hb23 q.2.1 | exact hb43 q.2.2)⟩⟩)
    · refine gx_if_eq_t (tgt := 53) hX dX4_isFreshNow_26 (by decide) (by decide) ?_
      refine gx_iconst (v := 0) hX dX4_isFreshNow_53 rfl (by decide) ?_
      exact gx_zret hC rfl dX4_isFreshNow_54 (⟨rfl, Or.inr ⟨rfl, by unfold qfn; first | (rw [decide_eq_false (Int32.not_lt.mpr h6)]; simp) | (intro q; simp only [Bool.and_eq_true] at q; first | exact hb23 q.2.1 | exact hb43 q.2.2)⟩⟩)

set_option maxRecDepth 100000 in
set_option maxHeartbeats 4000000 in
theorem c_X4_derive (l : Launch) (Y : gL) (mo : Nat) (σ : gS) (r : Nat → Int32) (n : Nat) (hM : gLM Y mo) (hr : gRow Y mo σ r n) : gM l yX4_derive cX4_derive 2 none (gRm 6 131) Y [.ref mo] σ (gV fun τ => gEq Y [15, 19, 20, 21, 22, 23] σ τ ∧ τ.1 mo 2 = σ.1 mo 2 ∧ gDer Y mo τ (qg r n) r) := by
  have hr1 := hr.1
  have hr2 := hr.2.1
  have hr3 := hr.2.2
  refine gM.of (by decide) rfl ?_
  intro p e s m args below meth c hC
  have hX := hC.1
  refine gx_aload_n hX 0 dX4_derive_0 rfl rfl ?_
  refine gx_callV (As := []) (st := []) hC (c_X4_deriveDependencies l Y mo σ r n hM hr) kX4_deriveDependencies wm_RX4_77 rfl (gM0 hM) rfl rfl rfl rfl rfl dX4_derive_1 rfl (gx_kv fun τ1 hq1 => ?_)
  have hrA := hr.eq hM hq1.1 (by decide)
  refine gx_aload_n hX 0 dX4_derive_4 rfl rfl ?_
  refine gx_callV (As := []) (st := []) hC (c_X4_deriveErrors l Y mo τ1 r n hM hrA hq1.2.2) kX4_deriveErrors wm_RX4_80 rfl (gM0 hM) rfl rfl rfl rfl rfl dX4_derive_5 rfl (gx_kv fun τ5 hq5 => ?_)
  have hrB := hrA.eq hM hq5.1 (by decide)
  have hdi2 : ∀ c, c < n → τ5.1 (gF Y mo 4) c = qdir (qg r n) c := by rw [hq5.1.at (gM4 hM) (by decide)]; exact hq1.2.1
  refine gx_aload_n hX 0 dX4_derive_8 rfl rfl ?_
  refine gx_callV (As := []) (st := []) hC (c_X4_deriveOrder l Y mo τ5 r n hM hrB hdi2 hq5.2) kX4_deriveOrder wm_RX4_83 rfl (gM0 hM) rfl rfl rfl rfl rfl dX4_derive_9 rfl (gx_kv fun τ9 hq9 => ?_)
  have hrC := hrB.eq hM hq9.1 (by decide)
  refine gx_iconst (v := 0) hX dX4_derive_12 rfl (by decide) ?_
  refine gx_istore_n (lv' := [(1, .int 0), (0, .ref mo)]) hX dX4_derive_13 rfl (by decide) rfl ?_
  have L14 : ∀ (k14 : Nat) (i : Nat) (τ : gS), n - i < k14 → (i ≤ n) → (gEq Y [23] τ9 τ) → (∀ c, c < i → τ.1 (gF Y mo 9) c = 0) → gG p l e (gRm 6 131) s m args below meth c Y (gV fun τ => gEq Y [15, 19, 20, 21, 22, 23] σ τ ∧ τ.1 mo 2 = σ.1 mo 2 ∧ gDer Y mo τ (qg r n) r) τ 14 [(0, .ref mo), (1, .int (nI i))] [] := by
    intro k14
    induction k14 with
    | zero => intro i τ hk14; exact absurd hk14 (Nat.not_lt_zero _)
    | succ k14 ih14 =>
      intro i τ hk14 hi he hf
      have hrt := hrC.eq hM he (by decide)
      refine gx_iload_n hX 1 dX4_derive_14 rfl rfl ?_
      refine gx_aload_n hX 0 dX4_derive_15 rfl rfl ?_
      refine gx_get hC 0 inlX4 wf_RX4_7 rfl (gM0 hM) rfl rfl rfl rfl dX4_derive_16 rfl ?_
      refine gx_iconst (v := 0) hX dX4_derive_19 rfl (by decide) ?_
      refine gx_iald (i := 0) hC (gM1 hM) rfl rfl (by omega) rfl dX4_derive_20 rfl ?_
      refine gx_topi (b := (nI n)) (by rw [(hrt).1]; exact hr2) ?_
      refine gx_nat_ge (i := i) (j := n) (tgt := 37) hX dX4_derive_21 (by decide) rfl rfl rfl (by omega) (by omega) (fun h21 => ?_) (fun h21 => ?_)
      · refine gx_iconst (v := 0) hX dX4_derive_37 rfl (by decide) ?_
        refine gx_istore_n (lv' := [(1, .int 0), (0, .ref mo)]) hX dX4_derive_38 rfl (by decide) rfl ?_
        have L39 : ∀ (k39 : Nat) (k : Nat) (υ : gS), qm (qg r n) - k < k39 → (k ≤ qm (qg r n)) → (gEq Y [23] τ9 υ) → (∀ c, c < n → υ.1 (gF Y mo 9) c = if qfr (qg r n) r k c = true then 1 else 0) → gG p l e (gRm 6 131) s m args below meth c Y (gV fun τ => gEq Y [15, 19, 20, 21, 22, 23] σ τ ∧ τ.1 mo 2 = σ.1 mo 2 ∧ gDer Y mo τ (qg r n) r) υ 39 [(0, .ref mo), (1, .int (nI k))] [] := by
          intro k39
          induction k39 with
          | zero => intro k υ hk39; exact absurd hk39 (Nat.not_lt_zero _)
          | succ k39 ih39 =>
            intro k υ hk39 hk heu hfr
            have hru := hrC.eq hM heu (by decide)
            refine gx_iload_n hX 1 dX4_derive_39 rfl rfl ?_
            refine gx_aload_n hX 0 dX4_derive_40 rfl rfl ?_
            refine gx_get hC 8 inlX4 wf_RX4_70 rfl (gM0 hM) rfl rfl rfl rfl dX4_derive_41 rfl ?_
            refine gx_topi (b := (nI (qm (qg r n)))) (by rw [heu.2 mo (by rw [gM0 hM]; decide)]; exact hq9.2.2.1) ?_
            have hqn := qm_le (qg r n)
            have hqn2 : qn (qg r n) = n := rfl
            refine gx_nat_ge (i := k) (j := qm (qg r n)) (tgt := 74) hX dX4_derive_44 (by decide) rfl rfl rfl (by omega) (by omega) (fun h44 => ?_) (fun h44 => ?_)
            · refine gx_vret hC dX4_derive_74 ?_
              have hkm : k = qm (qg r n) := by omega
              have hA : gEq Y [15, 19, 20, 21, 22, 23] σ υ := (((hq1.1.mono (by decide)).tr (hq5.1.mono (by decide))).tr (hq9.1.mono (by decide))).tr (heu.mono (by decide))
              have h15 : υ.1 mo = τ9.1 mo := heu.at (gM0 hM) (by decide)
              have h15b : τ5.1 mo = σ.1 mo := by rw [hq5.1.at (gM0 hM) (by decide), hq1.1.at (gM0 hM) (by decide)]
              refine ⟨hA, by rw [h15, hq9.2.1, h15b], ?_, ?_, ?_, by rw [h15]; exact hq9.2.2.1, ?_, ?_⟩
              · rw [heu.at (gM4 hM) (by decide), hq9.1.at (gM4 hM) (by decide)]; exact hdi2
              · rw [heu.at (gM6 hM) (by decide), hq9.1.at (gM6 hM) (by decide), hq5.1.at (gM6 hM) (by decide)]; exact hq1.2.2
              · rw [heu.at (gM5 hM) (by decide), hq9.1.at (gM5 hM) (by decide)]; exact hq5.2
              · rw [heu.at (gM7 hM) (by decide)]; exact hq9.2.2.2
              · rw [hkm] at hfr; exact hfr
            · refine gx_aload_n hX 0 dX4_derive_47 rfl rfl ?_
              refine gx_get hC 9 inlX4 wf_RX4_31 rfl (gM0 hM) rfl rfl rfl rfl dX4_derive_48 rfl ?_
              refine gx_aload_n hX 0 dX4_derive_51 rfl rfl ?_
              refine gx_get hC 7 inlX4 wf_RX4_28 rfl (gM0 hM) rfl rfl rfl rfl dX4_derive_52 rfl ?_
              refine gx_iload_n hX 1 dX4_derive_55 rfl rfl ?_
              refine gx_iald (i := k) hC (gM7 hM) rfl rfl (by omega) rfl dX4_derive_56 rfl ?_
              refine gx_topi (b := (nI (qo (qg r n) k))) (by rw [heu.at (gM7 hM) (by decide)]; exact hq9.2.2.2 k h44) ?_
              have hok : qo (qg r n) k < n := qm_lt h44
              have hsw := qw_src (g := qg r n) hr3 hok (qo_w hok)
              refine gx_aload_n hX 0 dX4_derive_57 rfl rfl ?_
              refine gx_aload_n hX 0 dX4_derive_58 rfl rfl ?_
              refine gx_get hC 7 inlX4 wf_RX4_28 rfl (gM0 hM) rfl rfl rfl rfl dX4_derive_59 rfl ?_
              refine gx_iload_n hX 1 dX4_derive_62 rfl rfl ?_
              refine gx_iald (i := k) hC (gM7 hM) rfl rfl (by omega) rfl dX4_derive_63 rfl ?_
              refine gx_topi (b := (nI (qo (qg r n) k))) (by rw [heu.at (gM7 hM) (by decide)]; exact hq9.2.2.2 k h44) ?_
              refine gx_callV (As := [.int (nI (qo (qg r n) k))]) (st := [.int (nI (qo (qg r n) k)), .ref (gF Y mo 9)]) hC (c_X4_isFreshNow l Y mo υ r n hM hru (qfr (qg r n) r k) hfr (qo (qg r n) k) hok hsw.1 hsw.2) kX4_isFreshNow wm_RX4_86 rfl (gM0 hM) rfl rfl rfl rfl rfl dX4_derive_64 rfl (gx_ki fun r64 τ64 hq64 => ?_)
              obtain ⟨rfl, ⟨rfl, hb64⟩ | ⟨rfl, hb64⟩⟩ := hq64
              · refine gx_zast (i := qo (qg r n) k) hC (gM9 hM) rfl rfl rfl rfl rfl (by omega) rfl dX4_derive_67 rfl ?_
                refine gx_iinc (w := (nI (k + 1))) (lv' := [(1, .int (nI (k + 1))), (0, .ref mo)]) hX 1 dX4_derive_68 rfl rfl (nI_add _ _) (by decide) rfl ?_
                refine gx_goto (pc' := 39) hX dX4_derive_71 (by decide) ?_
                exact gx_sub [1, 0] rfl (ih39 (k + 1) _ (by omega) (by omega) (heu.put (gM9 hM) (by decide)) (uI_qub hfr (by first | rw [hb64]; rfl | (rw [if_neg hb64]))))
              · refine gx_zast (i := qo (qg r n) k) hC (gM9 hM) rfl rfl rfl rfl rfl (by omega) rfl dX4_derive_67 rfl ?_
                refine gx_iinc (w := (nI (k + 1))) (lv' := [(1, .int (nI (k + 1))), (0, .ref mo)]) hX 1 dX4_derive_68 rfl rfl (nI_add _ _) (by decide) rfl ?_
                refine gx_goto (pc' := 39) hX dX4_derive_71 (by decide) ?_
                exact gx_sub [1, 0] rfl (ih39 (k + 1) _ (by omega) (by omega) (heu.put (gM9 hM) (by decide)) (uI_qub hfr (by first | rw [hb64]; rfl | (rw [if_neg hb64]))))
        exact gx_sub [1, 0] rfl (L39 (qm (qg r n) + 1) 0 _ (by omega) (by omega) he (fun c hc => hf c (by omega)))
      · refine gx_aload_n hX 0 dX4_derive_24 rfl rfl ?_
        refine gx_get hC 9 inlX4 wf_RX4_31 rfl (gM0 hM) rfl rfl rfl rfl dX4_derive_25 rfl ?_
        refine gx_iload_n hX 1 dX4_derive_28 rfl rfl ?_
        refine gx_iconst (v := 0) hX dX4_derive_29 rfl (by decide) ?_
        refine gx_zast (i := i) hC (gM9 hM) rfl rfl rfl rfl rfl (by omega) rfl dX4_derive_30 rfl ?_
        refine gx_iinc (w := (nI (i + 1))) (lv' := [(1, .int (nI (i + 1))), (0, .ref mo)]) hX 1 dX4_derive_31 rfl rfl (nI_add _ _) (by decide) rfl ?_
        refine gx_goto (pc' := 14) hX dX4_derive_34 (by decide) ?_
        exact gx_sub [1, 0] rfl (ih14 (i + 1) _ (by omega) (by omega) (he.put (gM9 hM) (by decide)) (uI_rng (P := fun _ => 0) hf rfl))
  exact gx_sub [1, 0] rfl (L14 (n + 1) 0 τ9 (by omega) (by omega) gEq.rf (fun c hc => absurd hc (Nat.not_lt_zero c)))

set_option maxRecDepth 100000 in
set_option maxHeartbeats 4000000 in
theorem c_X4_operandValue (l : Launch) (Y : gL) (mo : Nat) (σ : gS) (r : Nat → Int32) (n : Nat) (hM : gLM Y mo) (hr : gRow Y mo σ r n) (x : Int32) (hsrc : ¬ x < 100 → qsrc (qg r n) x < 12) : gM l yX4_operandValue cX4_operandValue 3 (some .int) (gRm 4 87) Y [.ref mo, .int x] σ (gI fun v τ => σ = τ ∧ qov (qg r n) r x = v) := by
  have hr1 := hr.1
  have hr2 := hr.2.1
  have hr3 := hr.2.2
  refine gM.of (by decide) rfl ?_
  intro p e s m args below meth c hC
  have hX := hC.1
  refine gx_iload_n hX 1 dX4_operandValue_0 rfl rfl ?_
  refine gx_bipush (v := 100) hX dX4_operandValue_1 rfl (by decide) ?_
  refine gx_icmp_ge (tgt := 8) hX dX4_operandValue_3 (by decide) rfl (fun h3 => ?_) (fun h3 => ?_)
  · refine gx_aload_n hX 0 dX4_operandValue_8 rfl rfl ?_
    refine gx_aload_n hX 0 dX4_operandValue_9 rfl rfl ?_
    refine gx_iload_n hX 1 dX4_operandValue_10 rfl rfl ?_
    refine gx_callV (As := [.int x]) (st := [.ref mo]) hC (c_X4_source l Y mo σ r n hM hr x) kX4_source wm_RX4_60 rfl (gM0 hM) rfl rfl rfl rfl rfl dX4_operandValue_11 rfl (gx_ki fun r11 τ11 hq11 => ?_)
    obtain ⟨rfl, ⟨rfl, hb11⟩ | ⟨rfl, hb11⟩⟩ := hq11
    · have hx := qge100.mp h3
      refine gx_iconst (v := 4) hX dX4_operandValue_14 rfl (by decide) ?_
      refine gx_callV (As := [.int (nI (qsrc (qg r n) x)), .int 4]) (st := []) hC (c_X4_get l Y mo σ r (qsrc (qg r n) x) 4 hM hr.1 (by omega)) kX4_get wm_RX4_50 rfl (gM0 hM) rfl rfl rfl rfl rfl dX4_operandValue_15 rfl (gx_ki fun r15 τ15 hq15 => ?_)
      obtain ⟨rfl, rfl⟩ := hq15
      refine gx_istore_n (lv' := [(2, .int (r (17 + 10 * (qsrc (qg r n) x) + 4))), (0, .ref mo), (1, .int x)]) hX dX4_operandValue_18 rfl (by decide) rfl ?_
      refine gx_iload_n hX 0 dX4_operandValue_19 rfl rfl ?_
      refine gx_sipush (v := 9999) hX dX4_operandValue_20 rfl (by decide) ?_
      refine gx_icmp_le (tgt := 32) hX dX4_operandValue_23 (by decide) rfl (fun h23 => ?_) (fun h23 => ?_)
      · refine gx_iload_n hX 0 dX4_operandValue_32 rfl rfl ?_
        exact gx_iret hC dX4_operandValue_33 (⟨rfl, by unfold qov; rw [if_neg hx]; first | rw [if_pos (Int32.not_le.mp h23)] | rw [if_neg (Int32.not_lt.mpr h23)]⟩)
      · refine gx_sipush (v := 20000) hX dX4_operandValue_26 rfl (by decide) ?_
        refine gx_goto (pc' := 33) hX dX4_operandValue_29 (by decide) ?_
        exact gx_iret hC dX4_operandValue_33 (⟨rfl, by unfold qov; rw [if_neg hx]; first | rw [if_pos (Int32.not_le.mp h23)] | rw [if_neg (Int32.not_lt.mpr h23)]⟩)
    · exact absurd (hsrc (qge100.mp h3)) (by omega)
  · refine gx_iload_n hX 1 dX4_operandValue_6 rfl rfl ?_
    exact gx_iret hC dX4_operandValue_7 (⟨rfl, if_pos (Decidable.not_not.mp (fun q => h3 (qge100.mpr q)))⟩)

set_option maxRecDepth 100000 in
set_option maxHeartbeats 4000000 in
theorem c_X4_exact (l : Launch) (Y : gL) (mo : Nat) (σ : gS) (op a b : Int32) (hne : op = 3 → ¬ b = 0) : gM l yX4_exact cX4_exact 4 (some .int) (gRm 0 0) Y [.ref mo, .int op, .int a, .int b] σ (gI fun v τ => σ = τ ∧ qex3 op a b = v) := by
  refine gM.of (by decide) rfl ?_
  intro p e s m args below meth c hC
  have hX := hC.1
  refine gx_iload_n hX 1 dX4_exact_0 rfl rfl ?_
  by_cases t1_0 : op = 0
  · refine gx_tableIn (tgt := 36) hX dX4_exact_1 0 t1_0 (by decide) (by decide) rfl (by decide) ?_
    refine gx_iload_n hX 2 dX4_exact_36 rfl rfl ?_
    refine gx_iload_n hX 3 dX4_exact_37 rfl rfl ?_
    refine gx_iadd hX dX4_exact_38 rfl ?_
    exact gx_iret hC dX4_exact_39 (⟨rfl, by unfold qex3; rw [if_pos t1_0]⟩)
  by_cases t1_1 : op = 1
  · refine gx_tableIn (tgt := 40) hX dX4_exact_1 1 t1_1 (by decide) (by decide) rfl (by decide) ?_
    refine gx_iload_n hX 2 dX4_exact_40 rfl rfl ?_
    refine gx_iload_n hX 3 dX4_exact_41 rfl rfl ?_
    refine gx_isub hX dX4_exact_42 rfl ?_
    exact gx_iret hC dX4_exact_43 (⟨rfl, by unfold qex3; rw [if_neg t1_0, if_pos t1_1]⟩)
  by_cases t1_2 : op = 2
  · refine gx_tableIn (tgt := 44) hX dX4_exact_1 2 t1_2 (by decide) (by decide) rfl (by decide) ?_
    refine gx_iload_n hX 2 dX4_exact_44 rfl rfl ?_
    refine gx_iload_n hX 3 dX4_exact_45 rfl rfl ?_
    refine gx_imul hX dX4_exact_46 rfl ?_
    exact gx_iret hC dX4_exact_47 (⟨rfl, by unfold qex3; rw [if_neg t1_0, if_neg t1_1, if_pos t1_2]⟩)
  by_cases t1_3 : op = 3
  · refine gx_tableIn (tgt := 48) hX dX4_exact_1 3 t1_3 (by decide) (by decide) rfl (by decide) ?_
    refine gx_iload_n hX 2 dX4_exact_48 rfl rfl ?_
    refine gx_iload_n hX 3 dX4_exact_49 rfl rfl ?_
    refine gx_idiv hX dX4_exact_50 rfl (hne t1_3) ?_
    exact gx_iret hC dX4_exact_51 (⟨rfl, by unfold qex3; rw [if_neg t1_0, if_neg t1_1, if_neg t1_2, if_pos t1_3]⟩)
  by_cases t1_4 : op = 4
  · refine gx_tableIn (tgt := 52) hX dX4_exact_1 4 t1_4 (by decide) (by decide) rfl (by decide) ?_
    refine gx_iload_n hX 2 dX4_exact_52 rfl rfl ?_
    refine gx_iload_n hX 3 dX4_exact_53 rfl rfl ?_
    refine gx_icmp_le (tgt := 61) hX dX4_exact_54 (by decide) rfl (fun h54 => ?_) (fun h54 => ?_)
    · refine gx_iload_n hX 3 dX4_exact_61 rfl rfl ?_
      exact gx_iret hC dX4_exact_62 (⟨rfl, by unfold qex3; rw [if_neg t1_0, if_neg t1_1, if_neg t1_2, if_neg t1_3, if_pos t1_4]; first | rw [if_pos (Int32.not_le.mp h54)] | rw [if_neg (Int32.not_lt.mpr h54)]⟩)
    · refine gx_iload_n hX 2 dX4_exact_57 rfl rfl ?_
      refine gx_goto (pc' := 62) hX dX4_exact_58 (by decide) ?_
      exact gx_iret hC dX4_exact_62 (⟨rfl, by unfold qex3; rw [if_neg t1_0, if_neg t1_1, if_neg t1_2, if_neg t1_3, if_pos t1_4]; first | rw [if_pos (Int32.not_le.mp h54)] | rw [if_neg (Int32.not_lt.mpr h54)]⟩)
  refine gx_tableOut (tgt := 63) hX dX4_exact_1 (qout4 t1_0 t1_1 t1_2 t1_3 t1_4) (by decide) ?_
  refine gx_iload_n hX 2 dX4_exact_63 rfl rfl ?_
  refine gx_iload_n hX 3 dX4_exact_64 rfl rfl ?_
  refine gx_icmp_ge (tgt := 72) hX dX4_exact_65 (by decide) rfl (fun h65 => ?_) (fun h65 => ?_)
  · refine gx_iload_n hX 3 dX4_exact_72 rfl rfl ?_
    exact gx_iret hC dX4_exact_73 (⟨rfl, by unfold qex3; rw [if_neg t1_0, if_neg t1_1, if_neg t1_2, if_neg t1_3, if_neg t1_4]; first | rw [if_neg (Int32.not_lt.mpr h65)] | rw [if_pos (Int32.not_le.mp h65)]⟩)
  · refine gx_iload_n hX 2 dX4_exact_68 rfl rfl ?_
    refine gx_goto (pc' := 73) hX dX4_exact_69 (by decide) ?_
    exact gx_iret hC dX4_exact_73 (⟨rfl, by unfold qex3; rw [if_neg t1_0, if_neg t1_1, if_neg t1_2, if_neg t1_3, if_neg t1_4]; first | rw [if_neg (Int32.not_lt.mpr h65)] | rw [if_pos (Int32.not_le.mp h65)]⟩)

set_option maxRecDepth 100000 in
set_option maxHeartbeats 4000000 in
theorem c_X4_compute (l : Launch) (Y : gL) (mo : Nat) (σ : gS) (r : Nat → Int32) (n : Nat) (hM : gLM Y mo) (hr : gRow Y mo σ r n) (i : Nat) (hi : i < n) (hsl : ¬ r (17 + 10 * i + 2) < 100 → qsrc (qg r n) (r (17 + 10 * i + 2)) < 12) (hsr : ¬ r (17 + 10 * i + 3) < 100 → qsrc (qg r n) (r (17 + 10 * i + 3)) < 12) : gM l yX4_compute cX4_compute 6 (some .int) (gRm 5 109) Y [.ref mo, .int (nI i)] σ (gI fun v τ => σ = τ ∧ qcmp (qg r n) r i = v) := by
  have hr1 := hr.1
  have hr2 := hr.2.1
  have hr3 := hr.2.2
  refine gM.of (by decide) rfl ?_
  intro p e s m args below meth c hC
  have hX := hC.1
  refine gx_aload_n hX 0 dX4_compute_0 rfl rfl ?_
  refine gx_aload_n hX 0 dX4_compute_1 rfl rfl ?_
  refine gx_iload_n hX 1 dX4_compute_2 rfl rfl ?_
  refine gx_iconst (v := 2) hX dX4_compute_3 rfl (by decide) ?_
  refine gx_callV (As := [.int (nI i), .int 2]) (st := [.ref mo]) hC (c_X4_get l Y mo σ r i 2 hM hr.1 (by omega)) kX4_get wm_RX4_50 rfl (gM0 hM) rfl rfl rfl rfl rfl dX4_compute_4 rfl (gx_ki fun r4 τ4 hq4 => ?_)
  obtain ⟨rfl, rfl⟩ := hq4
  refine gx_callV (As := [.int (r (17 + 10 * i + 2))]) (st := []) hC (c_X4_operandValue l Y mo σ r n hM hr (r (17 + 10 * i + 2)) hsl) kX4_operandValue wm_RX4_89 rfl (gM0 hM) rfl rfl rfl rfl rfl dX4_compute_7 rfl (gx_ki fun r7 τ7 hq7 => ?_)
  obtain ⟨rfl, rfl⟩ := hq7
  refine gx_istore_n (lv' := [(2, .int (qov (qg r n) r (r (17 + 10 * i + 2)))), (0, .ref mo), (1, .int (nI i))]) hX dX4_compute_10 rfl (by decide) rfl ?_
  refine gx_aload_n hX 1 dX4_compute_11 rfl rfl ?_
  refine gx_aload_n hX 1 dX4_compute_12 rfl rfl ?_
  refine gx_iload_n hX 2 dX4_compute_13 rfl rfl ?_
  refine gx_iconst (v := 3) hX dX4_compute_14 rfl (by decide) ?_
  refine gx_callV (As := [.int (nI i), .int 3]) (st := [.ref mo]) hC (c_X4_get l Y mo σ r i 3 hM hr.1 (by omega)) kX4_get wm_RX4_50 rfl (gM0 hM) rfl rfl rfl rfl rfl dX4_compute_15 rfl (gx_ki fun r15 τ15 hq15 => ?_)
  obtain ⟨rfl, rfl⟩ := hq15
  refine gx_callV (As := [.int (r (17 + 10 * i + 3))]) (st := []) hC (c_X4_operandValue l Y mo σ r n hM hr (r (17 + 10 * i + 3)) hsr) kX4_operandValue wm_RX4_89 rfl (gM0 hM) rfl rfl rfl rfl rfl dX4_compute_18 rfl (gx_ki fun r18 τ18 hq18 => ?_)
  obtain ⟨rfl, rfl⟩ := hq18
  refine gx_istore_n (lv' := [(3, .int (qov (qg r n) r (r (17 + 10 * i + 3)))), (2, .int (qov (qg r n) r (r (17 + 10 * i + 2)))), (0, .ref mo), (1, .int (nI i))]) hX dX4_compute_21 rfl (by decide) rfl ?_
  refine gx_iload_n hX 1 dX4_compute_22 rfl rfl ?_
  refine gx_sipush (v := 20000) hX dX4_compute_23 rfl (by decide) ?_
  refine gx_icmp_eq (tgt := 36) hX dX4_compute_26 (by decide) rfl (fun h26 => ?_) (fun h26 => ?_)
  · refine gx_sipush (v := 20005) hX dX4_compute_36 rfl (by decide) ?_
    exact gx_iret hC dX4_compute_39 (⟨rfl, by unfold qcmp; rw [if_pos (by first | exact Or.inl h26 | exact Or.inr h33)]⟩)
  · refine gx_iload_n hX 0 dX4_compute_29 rfl rfl ?_
    refine gx_sipush (v := 20000) hX dX4_compute_30 rfl (by decide) ?_
    refine gx_icmp_ne (tgt := 40) hX dX4_compute_33 (by decide) rfl (fun h33 => ?_) (fun h33 => ?_)
    · refine gx_aload_n hX 2 dX4_compute_40 rfl rfl ?_
      refine gx_iload_n hX 3 dX4_compute_41 rfl rfl ?_
      refine gx_iconst (v := 1) hX dX4_compute_42 rfl (by decide) ?_
      refine gx_callV (As := [.int (nI i), .int 1]) (st := []) hC (c_X4_get l Y mo σ r i 1 hM hr.1 (by omega)) kX4_get wm_RX4_50 rfl (gM0 hM) rfl rfl rfl rfl rfl dX4_compute_43 rfl (gx_ki fun r43 τ43 hq43 => ?_)
      obtain ⟨rfl, rfl⟩ := hq43
      refine gx_istore (lv' := [(4, .int (r (17 + 10 * i + 1))), (3, .int (qov (qg r n) r (r (17 + 10 * i + 3)))), (2, .int (qov (qg r n) r (r (17 + 10 * i + 2)))), (0, .ref mo), (1, .int (nI i))]) hX dX4_compute_46 rfl (by decide) rfl ?_
      refine gx_iload hX 0 dX4_compute_48 rfl rfl ?_
      refine gx_iconst (v := 3) hX dX4_compute_50 rfl (by decide) ?_
      refine gx_icmp_ne (tgt := 62) hX dX4_compute_51 (by decide) rfl (fun h51 => ?_) (fun h51 => ?_)
      · refine gx_aload_n hX 3 dX4_compute_62 rfl rfl ?_
        refine gx_iload hX 0 dX4_compute_63 rfl rfl ?_
        refine gx_iload_n hX 2 dX4_compute_65 rfl rfl ?_
        refine gx_iload_n hX 1 dX4_compute_66 rfl rfl ?_
        refine gx_callV (As := [.int (r (17 + 10 * i + 1)), .int (qov (qg r n) r (r (17 + 10 * i + 2))), .int (qov (qg r n) r (r (17 + 10 * i + 3)))]) (st := []) hC (c_X4_exact l Y mo σ (r (17 + 10 * i + 1)) (qov (qg r n) r (r (17 + 10 * i + 2))) (qov (qg r n) r (r (17 + 10 * i + 3))) (by first | exact hne | (intro q; exact absurd q h51) | (intro _; exact h55))) kX4_exact wm_RX4_92 rfl (gM0 hM) rfl rfl rfl rfl rfl dX4_compute_67 rfl (gx_ki fun r67 τ67 hq67 => ?_)
        obtain ⟨rfl, rfl⟩ := hq67
        refine gx_istore (lv' := [(5, .int (qex3 (r (17 + 10 * i + 1)) (qov (qg r n) r (r (17 + 10 * i + 2))) (qov (qg r n) r (r (17 + 10 * i + 3))))), (4, .int (r (17 + 10 * i + 1))), (3, .int (qov (qg r n) r (r (17 + 10 * i + 3)))), (2, .int (qov (qg r n) r (r (17 + 10 * i + 2)))), (0, .ref mo), (1, .int (nI i))]) hX dX4_compute_70 rfl (by decide) rfl ?_
        refine gx_iload hX 0 dX4_compute_72 rfl rfl ?_
        refine gx_sipush (v := (-9999)) hX dX4_compute_74 rfl (by decide) ?_
        refine gx_sipush (v := 9999) hX dX4_compute_77 rfl (by decide) ?_
        refine gx_callS (As := [.int (qex3 (r (17 + 10 * i + 1)) (qov (qg r n) r (r (17 + 10 * i + 2))) (qov (qg r n) r (r (17 + 10 * i + 3)))), .int (-9999), .int 9999]) (st := []) hC (c_X4_in l Y σ (qex3 (r (17 + 10 * i + 1)) (qov (qg r n) r (r (17 + 10 * i + 2))) (qov (qg r n) r (r (17 + 10 * i + 3)))) (-9999) 9999) kX4_in wm_RX4_42 rfl rfl rfl rfl dX4_compute_80 rfl (gx_ki fun r80 τ80 hq80 => ?_)
        obtain ⟨rfl, ⟨rfl, hb80⟩ | ⟨rfl, hb80⟩⟩ := hq80
        · refine gx_if_eq_f (tgt := 91) hX dX4_compute_83 (by decide) rfl (by decide) ?_
          refine gx_iload hX 0 dX4_compute_86 rfl rfl ?_
          refine gx_goto (pc' := 94) hX dX4_compute_88 (by decide) ?_
          exact gx_iret hC dX4_compute_94 (⟨rfl, by unfold qcmp; rw [if_neg (by rintro (q | q); exact h26 q; exact h33 q), if_neg (by rintro ⟨q1, q2⟩; first | exact h51 q1 | exact h55 q2)]; first | rw [if_pos hb80] | rw [if_neg hb80]⟩)
        · refine gx_if_eq_t (tgt := 91) hX dX4_compute_83 (by decide) (by decide) ?_
          refine gx_sipush (v := 20006) hX dX4_compute_91 rfl (by decide) ?_
          exact gx_iret hC dX4_compute_94 (⟨rfl, by unfold qcmp; rw [if_neg (by rintro (q | q); exact h26 q; exact h33 q), if_neg (by rintro ⟨q1, q2⟩; first | exact h51 q1 | exact h55 q2)]; first | rw [if_pos hb80] | rw [if_neg hb80]⟩)
      · refine gx_iload_n hX 1 dX4_compute_54 rfl rfl ?_
        refine gx_if_ne (tgt := 62) hX dX4_compute_55 (by decide) rfl (fun h55 => ?_) (fun h55 => ?_)
        · refine gx_aload_n hX 3 dX4_compute_62 rfl rfl ?_
          refine gx_iload hX 0 dX4_compute_63 rfl rfl ?_
          refine gx_iload_n hX 2 dX4_compute_65 rfl rfl ?_
          refine gx_iload_n hX 1 dX4_compute_66 rfl rfl ?_
          refine gx_callV (As := [.int (r (17 + 10 * i + 1)), .int (qov (qg r n) r (r (17 + 10 * i + 2))), .int (qov (qg r n) r (r (17 + 10 * i + 3)))]) (st := []) hC (c_X4_exact l Y mo σ (r (17 + 10 * i + 1)) (qov (qg r n) r (r (17 + 10 * i + 2))) (qov (qg r n) r (r (17 + 10 * i + 3))) (by first | exact hne | (intro q; exact absurd q h51) | (intro _; exact h55))) kX4_exact wm_RX4_92 rfl (gM0 hM) rfl rfl rfl rfl rfl dX4_compute_67 rfl (gx_ki fun r67 τ67 hq67 => ?_)
          obtain ⟨rfl, rfl⟩ := hq67
          refine gx_istore (lv' := [(5, .int (qex3 (r (17 + 10 * i + 1)) (qov (qg r n) r (r (17 + 10 * i + 2))) (qov (qg r n) r (r (17 + 10 * i + 3))))), (4, .int (r (17 + 10 * i + 1))), (3, .int (qov (qg r n) r (r (17 + 10 * i + 3)))), (2, .int (qov (qg r n) r (r (17 + 10 * i + 2)))), (0, .ref mo), (1, .int (nI i))]) hX dX4_compute_70 rfl (by decide) rfl ?_
          refine gx_iload hX 0 dX4_compute_72 rfl rfl ?_
          refine gx_sipush (v := (-9999)) hX dX4_compute_74 rfl (by decide) ?_
          refine gx_sipush (v := 9999) hX dX4_compute_77 rfl (by decide) ?_
          refine gx_callS (As := [.int (qex3 (r (17 + 10 * i + 1)) (qov (qg r n) r (r (17 + 10 * i + 2))) (qov (qg r n) r (r (17 + 10 * i + 3)))), .int (-9999), .int 9999]) (st := []) hC (c_X4_in l Y σ (qex3 (r (17 + 10 * i + 1)) (qov (qg r n) r (r (17 + 10 * i + 2))) (qov (qg r n) r (r (17 + 10 * i + 3)))) (-9999) 9999) kX4_in wm_RX4_42 rfl rfl rfl rfl dX4_compute_80 rfl (gx_ki fun r80 τ80 hq80 => ?_)
          obtain ⟨rfl, ⟨rfl, hb80⟩ | ⟨rfl, hb80⟩⟩ := hq80
          · refine gx_if_eq_f (tgt := 91) hX dX4_compute_83 (by decide) rfl (by decide) ?_
            refine gx_iload hX 0 dX4_compute_86 rfl rfl ?_
            refine gx_goto (pc' := 94) hX dX4_compute_88 (by decide) ?_
            exact gx_iret hC dX4_compute_94 (⟨rfl, by unfold qcmp; rw [if_neg (by rintro (q | q); exact h26 q; exact h33 q), if_neg (by rintro ⟨q1, q2⟩; first | exact h51 q1 | exact h55 q2)]; first | rw [if_pos hb80] | rw [if_neg hb80]⟩)
          · refine gx_if_eq_t (tgt := 91) hX dX4_compute_83 (by decide) (by decide) ?_
            refine gx_sipush (v := 20006) hX dX4_compute_91 rfl (by decide) ?_
            exact gx_iret hC dX4_compute_94 (⟨rfl, by unfold qcmp; rw [if_neg (by rintro (q | q); exact h26 q; exact h33 q), if_neg (by rintro ⟨q1, q2⟩; first | exact h51 q1 | exact h55 q2)]; first | rw [if_pos hb80] | rw [if_neg hb80]⟩)
        · refine gx_sipush (v := 20007) hX dX4_compute_58 rfl (by decide) ?_
          exact gx_iret hC dX4_compute_61 (⟨rfl, by unfold qcmp; rw [if_neg (by rintro (q | q); exact h26 q; exact h33 q), if_pos ⟨h51, h55⟩]⟩)
    · refine gx_sipush (v := 20005) hX dX4_compute_36 rfl (by decide) ?_
      exact gx_iret hC dX4_compute_39 (⟨rfl, by unfold qcmp; rw [if_pos (by first | exact Or.inl h26 | exact Or.inr h33)]⟩)

set_option maxRecDepth 100000 in
set_option maxHeartbeats 4000000 in
theorem c_X4_versionOf (l : Launch) (Y : gL) (mo : Nat) (σ : gS) (r : Nat → Int32) (n : Nat) (hM : gLM Y mo) (hr : gRow Y mo σ r n) (x : Int32) (hsrc : ¬ x < 100 → qsrc (qg r n) x < 12) : gM l yX4_versionOf cX4_versionOf 2 (some .int) (gRm 4 87) Y [.ref mo, .int x] σ (gI fun v τ => σ = τ ∧ qvo (qg r n) r x = v) := by
  have hr1 := hr.1
  have hr2 := hr.2.1
  have hr3 := hr.2.2
  refine gM.of (by decide) rfl ?_
  intro p e s m args below meth c hC
  have hX := hC.1
  refine gx_iload_n hX 1 dX4_versionOf_0 rfl rfl ?_
  refine gx_bipush (v := 100) hX dX4_versionOf_1 rfl (by decide) ?_
  refine gx_icmp_ge (tgt := 10) hX dX4_versionOf_3 (by decide) rfl (fun h3 => ?_) (fun h3 => ?_)
  · refine gx_aload_n hX 0 dX4_versionOf_10 rfl rfl ?_
    refine gx_aload_n hX 0 dX4_versionOf_11 rfl rfl ?_
    refine gx_iload_n hX 1 dX4_versionOf_12 rfl rfl ?_
    refine gx_callV (As := [.int x]) (st := [.ref mo]) hC (c_X4_source l Y mo σ r n hM hr x) kX4_source wm_RX4_60 rfl (gM0 hM) rfl rfl rfl rfl rfl dX4_versionOf_13 rfl (gx_ki fun r13 τ13 hq13 => ?_)
    obtain ⟨rfl, ⟨rfl, hb13⟩ | ⟨rfl, hb13⟩⟩ := hq13
    · have hx := qge100.mp h3
      refine gx_iconst (v := 5) hX dX4_versionOf_16 rfl (by decide) ?_
      refine gx_callV (As := [.int (nI (qsrc (qg r n) x)), .int 5]) (st := []) hC (c_X4_get l Y mo σ r (qsrc (qg r n) x) 5 hM hr.1 (by omega)) kX4_get wm_RX4_50 rfl (gM0 hM) rfl rfl rfl rfl rfl dX4_versionOf_17 rfl (gx_ki fun r17 τ17 hq17 => ?_)
      obtain ⟨rfl, rfl⟩ := hq17
      exact gx_iret hC dX4_versionOf_20 (⟨rfl, if_neg hx⟩)
    · exact absurd (hsrc (qge100.mp h3)) (by omega)
  · refine gx_iconst (v := 0) hX dX4_versionOf_6 rfl (by decide) ?_
    refine gx_goto (pc' := 20) hX dX4_versionOf_7 (by decide) ?_
    exact gx_iret hC dX4_versionOf_20 (⟨rfl, if_pos (Decidable.not_not.mp (fun q => h3 (qge100.mpr q)))⟩)
