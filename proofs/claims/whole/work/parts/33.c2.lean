set_option maxRecDepth 100000 in
set_option maxHeartbeats 4000000 in
theorem c_X0_define (l : Launch) (Y : gL) (k : Nat) (σ : gS) (hk : gK Y k = 14) (v op x y : Int32) : gM l yX0_define cX0_define 5 none (gRm 0 0) Y [.ref k, .int v, .int op, .int x, .int y] σ (gV fun τ => uI (uI (uI (uI (uI σ k 0 v) k 1 op) k 2 x) k 3 y) k 5 0 = τ) := by
  refine gM.of (by decide) rfl ?_
  intro p e s m args below meth c hC
  have hX := hC.1
  refine gx_aload_n hX 0 dX0_define_0 rfl rfl ?_
  refine gx_iload_n hX 1 dX0_define_1 rfl rfl ?_
  refine gx_put (τ := uI σ k 0 v) hC 0 inlX0 tyX0_ok nmX0 wf_RX0_9 rfl hk rfl rfl (by simp [gE, uI]) (fun b hb => gEnt_I hb) rfl rfl rfl rfl rfl rfl rfl dX0_define_2 rfl ?_
  refine gx_aload_n hX 0 dX0_define_5 rfl rfl ?_
  refine gx_iload_n hX 2 dX0_define_6 rfl rfl ?_
  refine gx_put (τ := uI (uI σ k 0 v) k 1 op) hC 1 inlX0 tyX0_ok nmX0 wf_RX0_15 rfl hk rfl rfl (by simp [gE, uI]) (fun b hb => gEnt_I hb) rfl rfl rfl rfl rfl rfl rfl dX0_define_7 rfl ?_
  refine gx_aload_n hX 0 dX0_define_10 rfl rfl ?_
  refine gx_iload_n hX 3 dX0_define_11 rfl rfl ?_
  refine gx_put (τ := uI (uI (uI σ k 0 v) k 1 op) k 2 x) hC 2 inlX0 tyX0_ok nmX0 wf_RX0_18 rfl hk rfl rfl (by simp [gE, uI]) (fun b hb => gEnt_I hb) rfl rfl rfl rfl rfl rfl rfl dX0_define_12 rfl ?_
  refine gx_aload_n hX 0 dX0_define_15 rfl rfl ?_
  refine gx_iload hX 4 dX0_define_16 rfl rfl ?_
  refine gx_put (τ := uI (uI (uI (uI σ k 0 v) k 1 op) k 2 x) k 3 y) hC 3 inlX0 tyX0_ok nmX0 wf_RX0_21 rfl hk rfl rfl (by simp [gE, uI]) (fun b hb => gEnt_I hb) rfl rfl rfl rfl rfl rfl rfl dX0_define_18 rfl ?_
  refine gx_aload_n hX 0 dX0_define_21 rfl rfl ?_
  refine gx_iconst (v := 0) hX dX0_define_22 rfl (by decide) ?_
  refine gx_put (τ := uI (uI (uI (uI (uI σ k 0 v) k 1 op) k 2 x) k 3 y) k 5 0) hC 5 inlX0 tyX0_ok nmX0 wf_RX0_24 rfl hk rfl rfl (by simp [gE, uI]) (fun b hb => gEnt_I hb) rfl rfl rfl rfl rfl rfl rfl dX0_define_23 rfl ?_
  exact gx_vret hC dX0_define_26 (rfl)

set_option maxRecDepth 100000 in
set_option maxHeartbeats 4000000 in
theorem c_X0_copyFrom (l : Launch) (Y : gL) (k u : Nat) (σ : gS) (hk : gK Y k = 14) (hu : gK Y u = 14) (hne : u ≠ k) : gM l yX0_copyFrom cX0_copyFrom 2 none (gRm 0 0) Y [.ref k, .ref u] σ (gV fun τ => zN (fun a => a = k) σ τ ∧ ∀ f, f < 9 → τ.1 k f = σ.1 u f) := by
  refine gM.of (by decide) rfl ?_
  intro p e s m args below meth c hC
  have hX := hC.1
  refine gx_aload_n hX 0 dX0_copyFrom_0 rfl rfl ?_
  refine gx_aload_n hX 1 dX0_copyFrom_1 rfl rfl ?_
  refine gx_get hC 0 inlX0 wf_RX0_9 rfl hu rfl rfl rfl rfl dX0_copyFrom_2 rfl ?_
  refine gx_topi (b := (σ.1 u 0)) (by simp [uI, hne]) ?_
  refine gx_put (τ := uI σ k 0 (σ.1 u 0)) hC 0 inlX0 tyX0_ok nmX0 wf_RX0_9 rfl hk rfl rfl (by simp [gE, uI]) (fun b hb => gEnt_I hb) rfl rfl rfl rfl rfl rfl rfl dX0_copyFrom_5 rfl ?_
  refine gx_aload_n hX 0 dX0_copyFrom_8 rfl rfl ?_
  refine gx_aload_n hX 1 dX0_copyFrom_9 rfl rfl ?_
  refine gx_get hC 1 inlX0 wf_RX0_15 rfl hu rfl rfl rfl rfl dX0_copyFrom_10 rfl ?_
  refine gx_topi (b := (σ.1 u 1)) (by simp [uI, hne]) ?_
  refine gx_put (τ := uI (uI σ k 0 (σ.1 u 0)) k 1 (σ.1 u 1)) hC 1 inlX0 tyX0_ok nmX0 wf_RX0_15 rfl hk rfl rfl (by simp [gE, uI]) (fun b hb => gEnt_I hb) rfl rfl rfl rfl rfl rfl rfl dX0_copyFrom_13 rfl ?_
  refine gx_aload_n hX 0 dX0_copyFrom_16 rfl rfl ?_
  refine gx_aload_n hX 1 dX0_copyFrom_17 rfl rfl ?_
  refine gx_get hC 2 inlX0 wf_RX0_18 rfl hu rfl rfl rfl rfl dX0_copyFrom_18 rfl ?_
  refine gx_topi (b := (σ.1 u 2)) (by simp [uI, hne]) ?_
  refine gx_put (τ := uI (uI (uI σ k 0 (σ.1 u 0)) k 1 (σ.1 u 1)) k 2 (σ.1 u 2)) hC 2 inlX0 tyX0_ok nmX0 wf_RX0_18 rfl hk rfl rfl (by simp [gE, uI]) (fun b hb => gEnt_I hb) rfl rfl rfl rfl rfl rfl rfl dX0_copyFrom_21 rfl ?_
  refine gx_aload_n hX 0 dX0_copyFrom_24 rfl rfl ?_
  refine gx_aload_n hX 1 dX0_copyFrom_25 rfl rfl ?_
  refine gx_get hC 3 inlX0 wf_RX0_21 rfl hu rfl rfl rfl rfl dX0_copyFrom_26 rfl ?_
  refine gx_topi (b := (σ.1 u 3)) (by simp [uI, hne]) ?_
  refine gx_put (τ := uI (uI (uI (uI σ k 0 (σ.1 u 0)) k 1 (σ.1 u 1)) k 2 (σ.1 u 2)) k 3 (σ.1 u 3)) hC 3 inlX0 tyX0_ok nmX0 wf_RX0_21 rfl hk rfl rfl (by simp [gE, uI]) (fun b hb => gEnt_I hb) rfl rfl rfl rfl rfl rfl rfl dX0_copyFrom_29 rfl ?_
  refine gx_aload_n hX 0 dX0_copyFrom_32 rfl rfl ?_
  refine gx_aload_n hX 1 dX0_copyFrom_33 rfl rfl ?_
  refine gx_get hC 4 inlX0 wf_RX0_27 rfl hu rfl rfl rfl rfl dX0_copyFrom_34 rfl ?_
  refine gx_topi (b := (σ.1 u 4)) (by simp [uI, hne]) ?_
  refine gx_put (τ := uI (uI (uI (uI (uI σ k 0 (σ.1 u 0)) k 1 (σ.1 u 1)) k 2 (σ.1 u 2)) k 3 (σ.1 u 3)) k 4 (σ.1 u 4)) hC 4 inlX0 tyX0_ok nmX0 wf_RX0_27 rfl hk rfl rfl (by simp [gE, uI]) (fun b hb => gEnt_I hb) rfl rfl rfl rfl rfl rfl rfl dX0_copyFrom_37 rfl ?_
  refine gx_aload_n hX 0 dX0_copyFrom_40 rfl rfl ?_
  refine gx_aload_n hX 1 dX0_copyFrom_41 rfl rfl ?_
  refine gx_get hC 5 inlX0 wf_RX0_24 rfl hu rfl rfl rfl rfl dX0_copyFrom_42 rfl ?_
  refine gx_topi (b := (σ.1 u 5)) (by simp [uI, hne]) ?_
  refine gx_put (τ := uI (uI (uI (uI (uI (uI σ k 0 (σ.1 u 0)) k 1 (σ.1 u 1)) k 2 (σ.1 u 2)) k 3 (σ.1 u 3)) k 4 (σ.1 u 4)) k 5 (σ.1 u 5)) hC 5 inlX0 tyX0_ok nmX0 wf_RX0_24 rfl hk rfl rfl (by simp [gE, uI]) (fun b hb => gEnt_I hb) rfl rfl rfl rfl rfl rfl rfl dX0_copyFrom_45 rfl ?_
  refine gx_aload_n hX 0 dX0_copyFrom_48 rfl rfl ?_
  refine gx_aload_n hX 1 dX0_copyFrom_49 rfl rfl ?_
  refine gx_get hC 6 inlX0 wf_RX0_30 rfl hu rfl rfl rfl rfl dX0_copyFrom_50 rfl ?_
  refine gx_topi (b := (σ.1 u 6)) (by simp [uI, hne]) ?_
  refine gx_put (τ := uI (uI (uI (uI (uI (uI (uI σ k 0 (σ.1 u 0)) k 1 (σ.1 u 1)) k 2 (σ.1 u 2)) k 3 (σ.1 u 3)) k 4 (σ.1 u 4)) k 5 (σ.1 u 5)) k 6 (σ.1 u 6)) hC 6 inlX0 tyX0_ok nmX0 wf_RX0_30 rfl hk rfl rfl (by simp [gE, uI]) (fun b hb => gEnt_I hb) rfl rfl rfl rfl rfl rfl rfl dX0_copyFrom_53 rfl ?_
  refine gx_aload_n hX 0 dX0_copyFrom_56 rfl rfl ?_
  refine gx_aload_n hX 1 dX0_copyFrom_57 rfl rfl ?_
  refine gx_get hC 7 inlX0 wf_RX0_33 rfl hu rfl rfl rfl rfl dX0_copyFrom_58 rfl ?_
  refine gx_topi (b := (σ.1 u 7)) (by simp [uI, hne]) ?_
  refine gx_put (τ := uI (uI (uI (uI (uI (uI (uI (uI σ k 0 (σ.1 u 0)) k 1 (σ.1 u 1)) k 2 (σ.1 u 2)) k 3 (σ.1 u 3)) k 4 (σ.1 u 4)) k 5 (σ.1 u 5)) k 6 (σ.1 u 6)) k 7 (σ.1 u 7)) hC 7 inlX0 tyX0_ok nmX0 wf_RX0_33 rfl hk rfl rfl (by simp [gE, uI]) (fun b hb => gEnt_I hb) rfl rfl rfl rfl rfl rfl rfl dX0_copyFrom_61 rfl ?_
  refine gx_aload_n hX 0 dX0_copyFrom_64 rfl rfl ?_
  refine gx_aload_n hX 1 dX0_copyFrom_65 rfl rfl ?_
  refine gx_get hC 8 inlX0 wf_RX0_36 rfl hu rfl rfl rfl rfl dX0_copyFrom_66 rfl ?_
  refine gx_topi (b := (σ.1 u 8)) (by simp [uI, hne]) ?_
  refine gx_put (τ := uI (uI (uI (uI (uI (uI (uI (uI (uI σ k 0 (σ.1 u 0)) k 1 (σ.1 u 1)) k 2 (σ.1 u 2)) k 3 (σ.1 u 3)) k 4 (σ.1 u 4)) k 5 (σ.1 u 5)) k 6 (σ.1 u 6)) k 7 (σ.1 u 7)) k 8 (σ.1 u 8)) hC 8 inlX0 tyX0_ok nmX0 wf_RX0_36 rfl hk rfl rfl (by simp [gE, uI]) (fun b hb => gEnt_I hb) rfl rfl rfl rfl rfl rfl rfl dX0_copyFrom_69 rfl ?_
  exact gx_vret hC dX0_copyFrom_72 (⟨((((((((((zN.rf (A := fun a => a = k)).put (A := fun a => a = k) rfl).put (A := fun a => a = k) rfl).put (A := fun a => a = k) rfl).put (A := fun a => a = k) rfl).put (A := fun a => a = k) rfl).put (A := fun a => a = k) rfl).put (A := fun a => a = k) rfl).put (A := fun a => a = k) rfl).put (A := fun a => a = k) rfl), fun f hf => by rcases z9 hf with rfl | rfl | rfl | rfl | rfl | rfl | rfl | rfl | rfl <;> simp [uI]⟩)

set_option maxRecDepth 100000 in
set_option maxHeartbeats 4000000 in
theorem c_X2_copyFrom (l : Launch) (Y : gL) (t : Nat) (σ : gS) (hS : zLS Y) (ht : gK Y t = 11) (hc : zCs Y σ.2.1 t) (u : Nat) (hu : gK Y u = 11) (hcu : zCs Y σ.2.1 u) (hne : u ≠ t) : gM l yX2_copyFrom cX2_copyFrom 3 none (gRm 1 21) Y [.ref t, .ref u] σ (gV fun τ => zCp Y σ τ t u) := by
  refine gM.of (by decide) rfl ?_
  intro p e s m args below meth c hC
  have hX := hC.1
  refine gx_aload_n hX 0 dX2_copyFrom_0 rfl rfl ?_
  refine gx_aload_n hX 1 dX2_copyFrom_1 rfl rfl ?_
  refine gx_get hC 1 inlX2 wf_RX2_17 rfl hu rfl rfl rfl rfl dX2_copyFrom_2 rfl ?_
  refine gx_topi (b := (σ.1 u 1)) (by simp [uI, hne]) ?_
  refine gx_put (τ := uI σ t 1 (σ.1 u 1)) hC 1 inlX2 tyX2_ok nmX2 wf_RX2_17 rfl ht rfl rfl (by simp [gE, uI]) (fun b hb => gEnt_I hb) rfl rfl rfl rfl rfl rfl rfl dX2_copyFrom_5 rfl ?_
  refine gx_aload_n hX 0 dX2_copyFrom_8 rfl rfl ?_
  refine gx_aload_n hX 1 dX2_copyFrom_9 rfl rfl ?_
  refine gx_get hC 2 inlX2 wf_RX2_21 rfl hu rfl rfl rfl rfl dX2_copyFrom_10 rfl ?_
  refine gx_topi (b := (σ.1 u 2)) (by simp [uI, hne]) ?_
  refine gx_put (τ := uI (uI σ t 1 (σ.1 u 1)) t 2 (σ.1 u 2)) hC 2 inlX2 tyX2_ok nmX2 wf_RX2_21 rfl ht rfl rfl (by simp [gE, uI]) (fun b hb => gEnt_I hb) rfl rfl rfl rfl rfl rfl rfl dX2_copyFrom_13 rfl ?_
  refine gx_aload_n hX 0 dX2_copyFrom_16 rfl rfl ?_
  refine gx_aload_n hX 1 dX2_copyFrom_17 rfl rfl ?_
  refine gx_get hC 3 inlX2 wf_RX2_24 rfl hu rfl rfl rfl rfl dX2_copyFrom_18 rfl ?_
  refine gx_topi (b := (σ.1 u 3)) (by simp [uI, hne]) ?_
  refine gx_put (τ := uI (uI (uI σ t 1 (σ.1 u 1)) t 2 (σ.1 u 2)) t 3 (σ.1 u 3)) hC 3 inlX2 tyX2_ok nmX2 wf_RX2_24 rfl ht rfl rfl (by simp [gE, uI]) (fun b hb => gEnt_I hb) rfl rfl rfl rfl rfl rfl rfl dX2_copyFrom_21 rfl ?_
  refine gx_aload_n hX 0 dX2_copyFrom_24 rfl rfl ?_
  refine gx_aload_n hX 1 dX2_copyFrom_25 rfl rfl ?_
  refine gx_get hC 4 inlX2 wf_RX2_27 rfl hu rfl rfl rfl rfl dX2_copyFrom_26 rfl ?_
  refine gx_topi (b := (σ.1 u 4)) (by simp [uI, hne]) ?_
  refine gx_put (τ := uI (uI (uI (uI σ t 1 (σ.1 u 1)) t 2 (σ.1 u 2)) t 3 (σ.1 u 3)) t 4 (σ.1 u 4)) hC 4 inlX2 tyX2_ok nmX2 wf_RX2_27 rfl ht rfl rfl (by simp [gE, uI]) (fun b hb => gEnt_I hb) rfl rfl rfl rfl rfl rfl rfl dX2_copyFrom_29 rfl ?_
  refine gx_aload_n hX 0 dX2_copyFrom_32 rfl rfl ?_
  refine gx_aload_n hX 1 dX2_copyFrom_33 rfl rfl ?_
  refine gx_get hC 6 inlX2 wf_RX2_34 rfl hu rfl rfl rfl rfl dX2_copyFrom_34 rfl ?_
  refine gx_topi (b := (σ.1 u 6)) (by simp [uI, hne]) ?_
  refine gx_put (τ := uI (uI (uI (uI (uI σ t 1 (σ.1 u 1)) t 2 (σ.1 u 2)) t 3 (σ.1 u 3)) t 4 (σ.1 u 4)) t 6 (σ.1 u 6)) hC 6 inlX2 tyX2_ok nmX2 wf_RX2_34 rfl ht rfl rfl (by simp [gE, uI]) (fun b hb => gEnt_I hb) rfl rfl rfl rfl rfl rfl rfl dX2_copyFrom_37 rfl ?_
  refine gx_iconst (v := 0) hX dX2_copyFrom_40 rfl (by decide) ?_
  refine gx_istore_n (lv' := [(2, .int 0), (0, .ref t), (1, .ref u)]) hX dX2_copyFrom_41 rfl (by decide) rfl ?_
  have L42 : ∀ (k42 : Nat) (i : Nat) (f : Nat → Nat → Int32), 12 - i < k42 → (i ≤ 12) → (zN (zW Y t) σ (f, σ.2)) → (∀ j, j < 7 → j ≠ 0 → j ≠ 5 → f t j = σ.1 u j) → (∀ x, x < i → (∀ k, k < 9 → f (σ.2.1 (gF Y t 0) x) k = σ.1 (σ.2.1 (gF Y u 0) x) k) ∧ f (gF Y t 5) x = σ.1 (gF Y u 5) x) → gG p l e (gRm 1 21) s m args below meth c Y (gV fun τ => zCp Y σ τ t u) (f, σ.2) 42 [(0, .ref t), (1, .ref u), (2, .int (nI i))] [] := by
    intro k42
    induction k42 with
    | zero => intro i f hk42; exact absurd hk42 (Nat.not_lt_zero _)
    | succ k42 ih42 =>
      intro i f hk42 hi he hs hx
      refine gx_iload_n hX 2 dX2_copyFrom_42 rfl rfl ?_
      refine gx_bipush (v := 12) hX dX2_copyFrom_43 rfl (by decide) ?_
      refine gx_nat_ge (i := i) (j := 12) (tgt := 81) hX dX2_copyFrom_45 (by decide) rfl rfl rfl (by omega) (by omega) (fun h45 => ?_) (fun h45 => ?_)
      · exact gx_vret hC dX2_copyFrom_81 (⟨he, hs, fun x h => hx x (by omega)⟩)
      · refine gx_aload_n hX 0 dX2_copyFrom_48 rfl rfl ?_
        refine gx_get hC 0 inlX2 wf_RX2_11 rfl ht rfl rfl rfl rfl dX2_copyFrom_49 rfl ?_
        refine gx_iload_n hX 2 dX2_copyFrom_52 rfl rfl ?_
        refine gx_aaldc (i := i) hC ((hS t ht).1) rfl rfl (by omega) rfl dX2_copyFrom_53 rfl ?_
        refine gx_aload_n hX 1 dX2_copyFrom_54 rfl rfl ?_
        refine gx_get hC 0 inlX2 wf_RX2_11 rfl hu rfl rfl rfl rfl dX2_copyFrom_55 rfl ?_
        refine gx_iload_n hX 2 dX2_copyFrom_58 rfl rfl ?_
        refine gx_aaldc (i := i) hC ((hS u hu).1) rfl rfl (by omega) rfl dX2_copyFrom_59 rfl ?_
        refine gx_callV (As := [.ref (σ.2.1 (gF Y u 0) i)]) (st := []) hC (c_X0_copyFrom l Y (σ.2.1 (gF Y t 0) i) (σ.2.1 (gF Y u 0) i) (f, σ.2) ((hc i (by omega)).1) ((hcu i (by omega)).1) (fun z => hne (((hcu i (by omega)).2.1.symm.trans (congrArg (zO Y) z)).trans (hc i (by omega)).2.1))) kX0_copyFrom wm_RX2_38 rfl ((hc i (by omega)).1) rfl rfl rfl rfl rfl dX2_copyFrom_60 rfl (gx_kv fun τ60 hq60 => ?_)
        obtain ⟨f60, w60⟩ := τ60
        obtain rfl : w60 = σ.2 := hq60.1.1
        have n1 : (σ.2.1 (gF Y t 0) i) ≠ t := gK_ne (hc i (by omega)).1 ht (by decide)
        have n2 : gF Y u 5 ≠ (σ.2.1 (gF Y t 0) i) := gK_ne (hS u hu).2.1 (hc i (by omega)).1 (by decide)
        have n3 : gF Y t 5 ≠ (σ.2.1 (gF Y t 0) i) := gK_ne (hS t ht).2.1 (hc i (by omega)).1 (by decide)
        have n4 : gF Y t 5 ≠ t := gK_ne (hS t ht).2.1 ht (by decide)
        have e5 : f60 (gF Y u 5) = σ.1 (gF Y u 5) := (hq60.1.2 _ n2).trans (he.2 _ ((hS.w5 hu).ne hne))
        have e6 : ∀ k, k < 9 → f60 (σ.2.1 (gF Y t 0) i) k = σ.1 (σ.2.1 (gF Y u 0) i) k := fun k hk => (hq60.2 k hk).trans (congrFun (he.2 _ ((hcu.w (by omega)).ne hne)) k)
        refine gx_aload_n hX 0 dX2_copyFrom_63 rfl rfl ?_
        refine gx_get hC 5 inlX2 wf_RX2_30 rfl ht rfl rfl rfl rfl dX2_copyFrom_64 rfl ?_
        refine gx_iload_n hX 2 dX2_copyFrom_67 rfl rfl ?_
        refine gx_aload_n hX 1 dX2_copyFrom_68 rfl rfl ?_
        refine gx_get hC 5 inlX2 wf_RX2_30 rfl hu rfl rfl rfl rfl dX2_copyFrom_69 rfl ?_
        refine gx_iload_n hX 2 dX2_copyFrom_72 rfl rfl ?_
        refine gx_iald (i := i) hC ((hS u hu).2.1) rfl rfl (by omega) rfl dX2_copyFrom_73 rfl ?_
        refine gx_topi (b := (σ.1 (gF Y u 5) i)) (congrFun e5 i) ?_
        refine gx_iast (i := i) hC ((hS t ht).2.1) rfl rfl rfl rfl (by omega) rfl dX2_copyFrom_74 rfl ?_
        refine gx_iinc (w := (nI (i + 1))) (lv' := [(2, .int (nI (i + 1))), (0, .ref t), (1, .ref u)]) hX 2 dX2_copyFrom_75 rfl rfl (nI_add _ _) (by decide) rfl ?_
        refine gx_goto (pc' := 42) hX dX2_copyFrom_78 (by decide) ?_
        have he2 : zN (zW Y t) σ (uI (f60, σ.2) (gF Y t 5) i (σ.1 (gF Y u 5) i)) := (he.tr (hq60.1.mono (fun a ha => by subst ha; exact hc.w (by omega)))).put (hS.w5 ht)
        exact gx_sub [1, 2, 0] rfl (ih42 (i + 1) (uI (f60, σ.2) (gF Y t 5) i (σ.1 (gF Y u 5) i)).1 (by omega) (by omega) he2 (fun j h1 h2 h3 => (congrFun (uI_ne n4.symm) j).trans ((congrFun (hq60.1.2 t n1.symm) j).trans (hs j h1 h2 h3))) (fun x hx2 => ⟨fun k hk => (congrFun (uI_ne (gK_ne (hc x (by omega)).1 (hS t ht).2.1 (by decide))) k).trans (by by_cases e : x = i; (subst e; exact e6 k hk); exact (congrFun (hq60.1.2 _ (fun z => e ((hc x (by omega)).2.2 i (by omega) z))) k).trans ((hx x (by omega)).1 k hk)), uI_rng (P := σ.1 (gF Y u 5)) (fun x hx3 => (congrFun (hq60.1.2 _ n3) x).trans (hx x hx3).2) rfl x hx2⟩))
  exact gx_sub [1, 2, 0] rfl (L42 13 0 (uI (uI (uI (uI (uI σ t 1 (σ.1 u 1)) t 2 (σ.1 u 2)) t 3 (σ.1 u 3)) t 4 (σ.1 u 4)) t 6 (σ.1 u 6)).1 (by omega) (by omega) (((((zN.rf.put (hS.w0 ht)).put (hS.w0 ht)).put (hS.w0 ht)).put (hS.w0 ht)).put (hS.w0 ht)) (fun j h1 h2 h3 => by rcases z5 h1 h2 h3 with rfl | rfl | rfl | rfl | rfl <;> simp [uI]) (fun x hx => absurd hx (Nat.not_lt_zero x)))

set_option maxRecDepth 100000 in
set_option maxHeartbeats 4000000 in
theorem c_X2_append (l : Launch) (Y : gL) (t : Nat) (σ : gS) (hS : zLS Y) (ht : gK Y t = 11) (hc : zCs Y σ.2.1 t) (r : Nat → Int32) (n : Nat) (hB : zB Y σ t r n) (hn : n < 12) (v op x y : Int32) : gM l yX2_append cX2_append 6 none (gRm 1 24) Y [.ref t, .int v, .int op, .int x, .int y] σ (gV fun τ => zN (zW Y t) σ τ ∧ zB Y τ t (qadd1 r n v op x y) (n + 1)) := by
  have n1 : (σ.2.1 (gF Y t 0) n) ≠ t := gK_ne (hc n hn).1 ht (by decide)
  have n2 : ∀ i, i < n → σ.2.1 (gF Y t 0) i ≠ (σ.2.1 (gF Y t 0) n) := fun i hi z => absurd ((hc i (by omega)).2.2 n hn z) (by omega)
  refine gM.of (by decide) rfl ?_
  intro p e s m args below meth c hC
  have hX := hC.1
  refine gx_aload_n hX 0 dX2_append_0 rfl rfl ?_
  refine gx_get hC 1 inlX2 wf_RX2_17 rfl ht rfl rfl rfl rfl dX2_append_1 rfl ?_
  refine gx_topi (b := (nI n)) hB.2.2.1 ?_
  refine gx_bipush (v := 12) hX dX2_append_4 rfl (by decide) ?_
  refine gx_nat_lt (i := n) (j := 12) (tgt := 10) hX dX2_append_6 (by decide) rfl rfl rfl (by omega) (by omega) (fun h6 => ?_) (fun h6 => ?_)
  · refine gx_aload_n hX 0 dX2_append_10 rfl rfl ?_
    refine gx_get hC 0 inlX2 wf_RX2_11 rfl ht rfl rfl rfl rfl dX2_append_11 rfl ?_
    refine gx_aload_n hX 0 dX2_append_14 rfl rfl ?_
    refine gx_get hC 1 inlX2 wf_RX2_17 rfl ht rfl rfl rfl rfl dX2_append_15 rfl ?_
    refine gx_topi (b := (nI n)) hB.2.2.1 ?_
    refine gx_aaldc (i := n) hC ((hS t ht).1) rfl rfl (by omega) rfl dX2_append_18 rfl ?_
    refine gx_astore (lv' := [(5, .ref (σ.2.1 (gF Y t 0) n)), (0, .ref t), (1, .int v), (2, .int op), (3, .int x), (4, .int y)]) hX dX2_append_19 rfl (by decide) rfl ?_
    refine gx_aload hX 0 dX2_append_21 rfl rfl ?_
    refine gx_iload_n hX 2 dX2_append_23 rfl rfl ?_
    refine gx_iload_n hX 3 dX2_append_24 rfl rfl ?_
    refine gx_iload_n hX 4 dX2_append_25 rfl rfl ?_
    refine gx_iload hX 5 dX2_append_26 rfl rfl ?_
    refine gx_callV (As := [.int v, .int op, .int x, .int y]) (st := []) hC (c_X0_define l Y (σ.2.1 (gF Y t 0) n) σ ((hc n (by omega)).1) v op x y) kX0_define wm_RX2_42 rfl ((hc n (by omega)).1) rfl rfl rfl rfl rfl dX2_append_28 rfl (gx_kv fun τ28 hq28 => ?_)
    obtain rfl := hq28
    refine gx_aload hX 0 dX2_append_31 rfl rfl ?_
    refine gx_iconst (v := 0) hX dX2_append_33 rfl (by decide) ?_
    refine gx_put (τ := uI (uI (uI (uI (uI (uI σ (σ.2.1 (gF Y t 0) n) 0 v) (σ.2.1 (gF Y t 0) n) 1 op) (σ.2.1 (gF Y t 0) n) 2 x) (σ.2.1 (gF Y t 0) n) 3 y) (σ.2.1 (gF Y t 0) n) 5 0) (σ.2.1 (gF Y t 0) n) 8 0) hC 8 inlX0 tyX0_ok nmX0 wf_RX2_46 rfl ((hc n (by omega)).1) rfl rfl (by simp [gE, uI]) (fun b hb => gEnt_I hb) rfl rfl rfl rfl rfl rfl rfl dX2_append_34 rfl ?_
    refine gx_aload_n hX 1 dX2_append_37 rfl rfl ?_
    refine gx_dup hX dX2_append_38 rfl rfl ?_
    refine gx_get hC 1 inlX2 wf_RX2_17 rfl ht rfl rfl rfl rfl dX2_append_39 rfl ?_
    refine gx_topi (b := (nI n)) (by simp [uI, n1.symm]; exact hB.2.2.1) ?_
    refine gx_iconst (v := 1) hX dX2_append_42 rfl (by decide) ?_
    refine gx_iaddN (i := n) (j := 1) hX dX2_append_43 rfl rfl rfl ?_
    refine gx_put (τ := uI (uI (uI (uI (uI (uI (uI σ (σ.2.1 (gF Y t 0) n) 0 v) (σ.2.1 (gF Y t 0) n) 1 op) (σ.2.1 (gF Y t 0) n) 2 x) (σ.2.1 (gF Y t 0) n) 3 y) (σ.2.1 (gF Y t 0) n) 5 0) (σ.2.1 (gF Y t 0) n) 8 0) t 1 (nI (n + 1))) hC 1 inlX2 tyX2_ok nmX2 wf_RX2_17 rfl ht rfl rfl (by simp [gE, uI]) (fun b hb => gEnt_I hb) rfl rfl rfl rfl rfl rfl rfl dX2_append_44 rfl ?_
    exact gx_vret hC dX2_append_47 (⟨((((((zN.rf.put (hc.w hn)).put (hc.w hn)).put (hc.w hn)).put (hc.w hn)).put (hc.w hn)).put (hc.w hn)).put (hS.w0 ht), hB.add hn rfl uI_at (fun j hj => by simp [uI, hj, n1.symm]) (fun i hi => by funext k; simp [uI, n2 i hi, gK_ne (hc i (by omega)).1 ht (by decide)]) (by simp [uI, n1]) (by simp [uI, n1]) (by simp [uI, n1]) (by simp [uI, n1]) (by simp [uI, n1]) (by simp [uI, n1])⟩)
  · exact absurd hn (by omega)

set_option maxRecDepth 100000 in
set_option maxHeartbeats 4000000 in
theorem c_X2_move (l : Launch) (Y : gL) (t : Nat) (σ : gS) (hS : zLS Y) (ht : gK Y t = 11) (hc : zCs Y σ.2.1 t) (i j : Nat) (hi : i < 12) (hj : j < 12) : gM l yX2_move cX2_move 5 none (gRm 0 0) Y [.ref t, .int (nI i), .int (nI j)] σ (gV fun τ => zMv Y t i j σ τ) := by
  refine gM.of (by decide) rfl ?_
  intro p e s m args below meth c hC
  have hX := hC.1
  refine gx_aload_n hX 0 dX2_move_0 rfl rfl ?_
  refine gx_get hC 0 inlX2 wf_RX2_11 rfl ht rfl rfl rfl rfl dX2_move_1 rfl ?_
  refine gx_iload_n hX 1 dX2_move_4 rfl rfl ?_
  refine gx_aaldc (i := i) hC ((hS t ht).1) rfl rfl (by omega) rfl dX2_move_5 rfl ?_
  refine gx_astore_n (lv' := [(3, .ref (σ.2.1 (gF Y t 0) i)), (0, .ref t), (1, .int (nI i)), (2, .int (nI j))]) hX dX2_move_6 rfl (by decide) rfl ?_
  refine gx_iload_n hX 2 dX2_move_7 rfl rfl ?_
  refine gx_istore (lv' := [(4, .int (nI i)), (3, .ref (σ.2.1 (gF Y t 0) i)), (0, .ref t), (1, .int (nI i)), (2, .int (nI j))]) hX dX2_move_8 rfl (by decide) rfl ?_
  have L10 : ∀ (k10 : Nat) (x : Nat) (ω : gS), 13 - x < k10 → (i ≤ x) → (x ≤ j ∨ x = i) → (zU (gF Y t 0) σ ω) → (∀ d, ω.2.1 (gF Y t 0) d = σ.2.1 (gF Y t 0) (zm1 i x d)) → gG p l e (gRm 0 0) s m args below meth c Y (gV fun τ => zMv Y t i j σ τ) ω 10 [(0, .ref t), (1, .int (nI i)), (2, .int (nI j)), (3, .ref (σ.2.1 (gF Y t 0) i)), (4, .int (nI x))] [] := by
    intro k10
    induction k10 with
    | zero => intro x ω hk10; exact absurd hk10 (Nat.not_lt_zero _)
    | succ k10 ih10 =>
      intro x ω hk10 h1 h2 hu hw
      refine gx_iload hX 4 dX2_move_10 rfl rfl ?_
      refine gx_iload_n hX 2 dX2_move_12 rfl rfl ?_
      refine gx_nat_ge (i := x) (j := j) (tgt := 38) hX dX2_move_13 (by decide) rfl rfl rfl (by omega) (by omega) (fun h13 => ?_) (fun h13 => ?_)
      · refine gx_iload_n hX 1 dX2_move_38 rfl rfl ?_
        refine gx_istore (lv' := [(4, .int (nI i)), (0, .ref t), (1, .int (nI i)), (2, .int (nI j)), (3, .ref (σ.2.1 (gF Y t 0) i))]) hX dX2_move_39 rfl (by decide) rfl ?_
        have L41 : ∀ (k41 : Nat) (x : Nat) (ω : gS), x < k41 → (x ≤ i) → (j ≤ x ∨ x = i) → (zU (gF Y t 0) σ ω) → (∀ d, ω.2.1 (gF Y t 0) d = σ.2.1 (gF Y t 0) (zm2 i j x d)) → gG p l e (gRm 0 0) s m args below meth c Y (gV fun τ => zMv Y t i j σ τ) ω 41 [(0, .ref t), (1, .int (nI i)), (2, .int (nI j)), (3, .ref (σ.2.1 (gF Y t 0) i)), (4, .int (nI x))] [] := by
          intro k41
          induction k41 with
          | zero => intro x ω hk41; exact absurd hk41 (Nat.not_lt_zero _)
          | succ k41 ih41 =>
            intro x ω hk41 h1 h2 hu hw2
            refine gx_iload hX 4 dX2_move_41 rfl rfl ?_
            refine gx_iload_n hX 2 dX2_move_43 rfl rfl ?_
            refine gx_nat_le (i := x) (j := j) (tgt := 69) hX dX2_move_44 (by decide) rfl rfl rfl (by omega) (by omega) (fun h44 => ?_) (fun h44 => ?_)
            · refine gx_aload_n hX 0 dX2_move_69 rfl rfl ?_
              refine gx_get hC 0 inlX2 wf_RX2_11 rfl ht rfl rfl rfl rfl dX2_move_70 rfl ?_
              refine gx_iload_n hX 2 dX2_move_73 rfl rfl ?_
              refine gx_aload_n hX 3 dX2_move_74 rfl rfl ?_
              refine gx_aast (i := j) hC 2 ((hS t ht).1) rfl rfl rfl rfl ((hc i (by omega)).1) rfl rfl rfl (by omega) rfl dX2_move_75 rfl ?_
              exact gx_vret hC dX2_move_76 (⟨hu.put.1, hu.put.2.1, hu.put.2.2, fun d => by rw [uG_if]; unfold qfrom; by_cases e : d = j; (subst e; rw [if_pos ⟨rfl, rfl⟩, if_pos rfl]); (rw [if_neg (fun z => e z.2), if_neg e, hw2]; unfold zm2; by_cases e2 : i ≤ d ∧ d < j; (rw [if_neg (by omega), if_pos e2, if_pos e2]); (rw [if_neg e2, if_neg e2]; by_cases e3 : j < d ∧ d ≤ i; (rw [if_pos (by omega), if_pos e3]); (rw [if_neg (by omega), if_neg e3])))⟩)
            · refine gx_aload_n hX 0 dX2_move_47 rfl rfl ?_
              refine gx_get hC 0 inlX2 wf_RX2_11 rfl ht rfl rfl rfl rfl dX2_move_48 rfl ?_
              refine gx_iload hX 4 dX2_move_51 rfl rfl ?_
              refine gx_aload_n hX 0 dX2_move_53 rfl rfl ?_
              refine gx_get hC 0 inlX2 wf_RX2_11 rfl ht rfl rfl rfl rfl dX2_move_54 rfl ?_
              refine gx_iload hX 4 dX2_move_57 rfl rfl ?_
              refine gx_iconst (v := 1) hX dX2_move_59 rfl (by decide) ?_
              refine gx_isubN (i := x) (j := 1) hX dX2_move_60 rfl rfl rfl (by omega) ?_
              refine gx_aaldc (i := x - 1) hC ((hS t ht).1) rfl rfl (by omega) rfl dX2_move_61 rfl ?_
              refine gx_topr (b := (σ.2.1 (gF Y t 0) (x - 1))) (by rw [hw2]; unfold zm2; rw [if_neg (by omega), if_neg (by omega)]) ?_
              refine gx_aast (i := x) hC 2 ((hS t ht).1) rfl rfl rfl rfl ((hc (x - 1) (by omega)).1) rfl rfl rfl (by omega) rfl dX2_move_62 rfl ?_
              refine gx_iinc (w := (nI (x - 1))) (lv' := [(4, .int (nI (x - 1))), (0, .ref t), (1, .int (nI i)), (2, .int (nI j)), (3, .ref (σ.2.1 (gF Y t 0) i))]) hX 4 dX2_move_63 rfl rfl (nI_dec (by omega)) (by decide) rfl ?_
              refine gx_goto (pc' := 41) hX dX2_move_66 (by decide) ?_
              exact gx_sub [1, 2, 3, 4, 0] rfl (ih41 (x - 1) _ (by omega) (by omega) (by omega) hu.put (fun d => by rw [uG_if]; unfold zm2; by_cases e : d = x; (subst e; rw [if_pos ⟨rfl, rfl⟩, if_pos (by omega)]); (rw [if_neg (fun z => e z.2), hw2]; unfold zm2; by_cases e2 : x < d ∧ d ≤ i; (rw [if_pos e2, if_pos (by omega)]); (rw [if_neg e2, if_neg (show ¬ (x - 1 < d ∧ d ≤ i) by omega)]))))
        exact gx_sub [1, 2, 3, 4, 0] rfl (L41 (i + 1) i ω (by omega) (Nat.le_refl i) (Or.inr rfl) hu (fun d => by rw [hw]; unfold zm1 zm2; rw [if_neg (show ¬ (i < d ∧ d ≤ i) by omega)]; by_cases e : i ≤ d ∧ d < j; (rw [if_pos e, if_pos (by omega)]); (rw [if_neg e, if_neg (by omega)])))
      · refine gx_aload_n hX 0 dX2_move_16 rfl rfl ?_
        refine gx_get hC 0 inlX2 wf_RX2_11 rfl ht rfl rfl rfl rfl dX2_move_17 rfl ?_
        refine gx_iload hX 4 dX2_move_20 rfl rfl ?_
        refine gx_aload_n hX 0 dX2_move_22 rfl rfl ?_
        refine gx_get hC 0 inlX2 wf_RX2_11 rfl ht rfl rfl rfl rfl dX2_move_23 rfl ?_
        refine gx_iload hX 4 dX2_move_26 rfl rfl ?_
        refine gx_iconst (v := 1) hX dX2_move_28 rfl (by decide) ?_
        refine gx_iaddN (i := x) (j := 1) hX dX2_move_29 rfl rfl rfl ?_
        refine gx_aaldc (i := x + 1) hC ((hS t ht).1) rfl rfl (by omega) rfl dX2_move_30 rfl ?_
        refine gx_topr (b := (σ.2.1 (gF Y t 0) (x + 1))) (by rw [hw]; unfold zm1; rw [if_neg (by omega)]) ?_
        refine gx_aast (i := x) hC 2 ((hS t ht).1) rfl rfl rfl rfl ((hc (x + 1) (by omega)).1) rfl rfl rfl (by omega) rfl dX2_move_31 rfl ?_
        refine gx_iinc (w := (nI (x + 1))) (lv' := [(4, .int (nI (x + 1))), (0, .ref t), (1, .int (nI i)), (2, .int (nI j)), (3, .ref (σ.2.1 (gF Y t 0) i))]) hX 4 dX2_move_32 rfl rfl (nI_add _ _) (by decide) rfl ?_
        refine gx_goto (pc' := 10) hX dX2_move_35 (by decide) ?_
        exact gx_sub [1, 2, 3, 4, 0] rfl (ih10 (x + 1) _ (by omega) (by omega) (by omega) hu.put (fun d => by rw [uG_if]; unfold zm1; by_cases e : d = x; (subst e; rw [if_pos ⟨rfl, rfl⟩, if_pos (by omega)]); (rw [if_neg (fun z => e z.2), hw]; unfold zm1; by_cases e2 : i ≤ d ∧ d < x; (rw [if_pos e2, if_pos (by omega)]); (rw [if_neg e2, if_neg (by omega)]))))
  exact gx_sub [2, 3, 4, 1, 0] rfl (L10 14 i σ (by omega) (Nat.le_refl i) (Or.inr rfl) zU.rf (fun d => by unfold zm1; rw [if_neg (by omega)]))

set_option maxRecDepth 100000 in
set_option maxHeartbeats 4000000 in
theorem c_X2_remove (l : Launch) (Y : gL) (t : Nat) (σ : gS) (hS : zLS Y) (ht : gK Y t = 11) (hc : zCs Y σ.2.1 t) (n i : Nat) (hn : n ≤ 12) (h1 : σ.1 t 1 = nI n) (hi : i < n) : gM l yX2_remove cX2_remove 2 none (gRm 1 24) Y [.ref t, .int (nI i)] σ (gV fun τ => ∃ ω, zMv Y t i (n - 1) σ ω ∧ uI ω t 1 (nI (n - 1)) = τ) := by
  refine gM.of (by decide) rfl ?_
  intro p e s m args below meth c hC
  have hX := hC.1
  refine gx_aload_n hX 0 dX2_remove_0 rfl rfl ?_
  refine gx_iload_n hX 1 dX2_remove_1 rfl rfl ?_
  refine gx_aload_n hX 0 dX2_remove_2 rfl rfl ?_
  refine gx_get hC 1 inlX2 wf_RX2_17 rfl ht rfl rfl rfl rfl dX2_remove_3 rfl ?_
  refine gx_topi (b := (nI n)) h1 ?_
  refine gx_iconst (v := 1) hX dX2_remove_6 rfl (by decide) ?_
  refine gx_isubN (i := n) (j := 1) hX dX2_remove_7 rfl rfl rfl (by omega) ?_
  refine gx_callV (As := [.int (nI i), .int (nI (n - 1))]) (st := []) hC (c_X2_move l Y t σ hS ht hc i (n - 1) (by omega) (by omega)) kX2_move wm_RX2_49 rfl ht rfl rfl rfl rfl rfl dX2_remove_8 rfl (gx_kv fun τ8 hq8 => ?_)
  refine gx_aload_n hX 0 dX2_remove_11 rfl rfl ?_
  refine gx_dup hX dX2_remove_12 rfl rfl ?_
  refine gx_get hC 1 inlX2 wf_RX2_17 rfl ht rfl rfl rfl rfl dX2_remove_13 rfl ?_
  refine gx_topi (b := (nI n)) (by rw [hq8.1]; exact h1) ?_
  refine gx_iconst (v := 1) hX dX2_remove_16 rfl (by decide) ?_
  refine gx_isubN (i := n) (j := 1) hX dX2_remove_17 rfl rfl rfl (by omega) ?_
  refine gx_put (τ := uI τ8 t 1 (nI (n - 1))) hC 1 inlX2 tyX2_ok nmX2 wf_RX2_17 rfl ht rfl rfl (by simp [gE, uI]) (fun b hb => gEnt_I hb) rfl rfl rfl rfl rfl rfl rfl dX2_remove_18 rfl ?_
  exact gx_vret hC dX2_remove_21 (⟨_, hq8, rfl⟩)

set_option maxRecDepth 100000 in
set_option maxHeartbeats 4000000 in
theorem c_X2_recordRun (l : Launch) (Y : gL) (t : Nat) (σ : gS) (hS : zLS Y) (ht : gK Y t = 11) (hc : zCs Y σ.2.1 t) (i k : Nat) (hk : k < 12) (h6 : σ.1 t 6 = nI k) : gM l yX2_recordRun cX2_recordRun 2 none (gRm 0 0) Y [.ref t, .int (nI i)] σ (gV fun τ => uI (uI (uI σ t 3 (σ.1 t 3 + 1)) (gF Y t 5) k (nI i)) t 6 (nI (k + 1)) = τ) := by
  have n4 : gF Y t 5 ≠ t := gK_ne (hS t ht).2.1 ht (by decide)
  refine gM.of (by decide) rfl ?_
  intro p e s m args below meth c hC
  have hX := hC.1
  refine gx_aload_n hX 0 dX2_recordRun_0 rfl rfl ?_
  refine gx_dup hX dX2_recordRun_1 rfl rfl ?_
  refine gx_get hC 3 inlX2 wf_RX2_24 rfl ht rfl rfl rfl rfl dX2_recordRun_2 rfl ?_
  refine gx_iconst (v := 1) hX dX2_recordRun_5 rfl (by decide) ?_
  refine gx_iadd hX dX2_recordRun_6 rfl ?_
  refine gx_put (τ := uI σ t 3 ((σ.1 t 3) + 1)) hC 3 inlX2 tyX2_ok nmX2 wf_RX2_24 rfl ht rfl rfl (by simp [gE, uI]) (fun b hb => gEnt_I hb) rfl rfl rfl rfl rfl rfl rfl dX2_recordRun_7 rfl ?_
  refine gx_aload_n hX 0 dX2_recordRun_10 rfl rfl ?_
  refine gx_get hC 6 inlX2 wf_RX2_34 rfl ht rfl rfl rfl rfl dX2_recordRun_11 rfl ?_
  refine gx_topi (b := (nI k)) ((uI_off (by decide)).trans h6) ?_
  refine gx_bipush (v := 12) hX dX2_recordRun_14 rfl (by decide) ?_
  refine gx_nat_ge (i := k) (j := 12) (tgt := 39) hX dX2_recordRun_16 (by decide) rfl rfl rfl (by omega) (by omega) (fun h16 => ?_) (fun h16 => ?_)
  · exact absurd hk (by omega)
  · refine gx_aload_n hX 0 dX2_recordRun_19 rfl rfl ?_
    refine gx_get hC 5 inlX2 wf_RX2_30 rfl ht rfl rfl rfl rfl dX2_recordRun_20 rfl ?_
    refine gx_aload_n hX 0 dX2_recordRun_23 rfl rfl ?_
    refine gx_get hC 6 inlX2 wf_RX2_34 rfl ht rfl rfl rfl rfl dX2_recordRun_24 rfl ?_
    refine gx_topi (b := (nI k)) ((uI_off (by decide)).trans h6) ?_
    refine gx_iload_n hX 1 dX2_recordRun_27 rfl rfl ?_
    refine gx_iast (i := k) hC ((hS t ht).2.1) rfl rfl rfl rfl (by omega) rfl dX2_recordRun_28 rfl ?_
    refine gx_aload_n hX 0 dX2_recordRun_29 rfl rfl ?_
    refine gx_dup hX dX2_recordRun_30 rfl rfl ?_
    refine gx_get hC 6 inlX2 wf_RX2_34 rfl ht rfl rfl rfl rfl dX2_recordRun_31 rfl ?_
    refine gx_topi (b := (nI k)) ((congrFun (uI_ne n4.symm) 6).trans ((uI_off (by decide)).trans h6)) ?_
    refine gx_iconst (v := 1) hX dX2_recordRun_34 rfl (by decide) ?_
    refine gx_iaddN (i := k) (j := 1) hX dX2_recordRun_35 rfl rfl rfl ?_
    refine gx_put (τ := uI (uI (uI σ t 3 ((σ.1 t 3) + 1)) (gF Y t 5) k (nI i)) t 6 (nI (k + 1))) hC 6 inlX2 tyX2_ok nmX2 wf_RX2_34 rfl ht rfl rfl (by simp [gE, uI]) (fun b hb => gEnt_I hb) rfl rfl rfl rfl rfl rfl rfl dX2_recordRun_36 rfl ?_
    exact gx_vret hC dX2_recordRun_39 (rfl)
