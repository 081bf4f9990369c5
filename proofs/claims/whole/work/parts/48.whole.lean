set_option maxRecDepth 100000 in
set_option maxHeartbeats 4000000 in
/-- from the entry to the loop: both objects made -/
theorem law_make {p : Program} {e : Env} {s : State} {m : MethodId} {below : List Frame} {meth : Method} {c : Code} (l : Launch) {b L : Nat} {xs : Nat → Int32} {Z : va_G × ClassId × ClassId × ClassId × ClassId} (hL : L ≤ 3072) (hC : gOK p s m #[Value.ref b] meth c (Y0 Z) cL_law 4 RL ret) (hXs : va_X b L xs s s.heap) (hbl : b < s.heap.size) : gW p l e room_1 s m #[Value.ref b] below meth c (mP (Y0 Z)) (fun q => s.heap.size ≤ q) 0 0 (lw_Z below #[Value.ref b] s) (fun _ => none, s.heap.size) 0 [(0, .ref b)] [] := by
  have hX := hC.1
  obtain ⟨N, hN⟩ : ∃ N, s.heap.size = N := ⟨_, rfl⟩
  rw [hN]
  refine mx_new (ci := 3) (T := TX3) (fs := mZ3) (ty := tyX3) (X := (fun _ => none, N)) hC wl_RL_7 wa_RX3 wn_RX3 inlX3 tyX3_ok rfl dvX3 (by show _ ≤ 600000; omega) (by show _ ≤ 7302250; omega) dL_law_0 rfl ?_
  refine gx_topr (b := N) rfl ?_
  refine gx_dup hX dL_law_3 rfl rfl ?_
  refine mx_callI (ck := 0 + 1) (cn := 0 + 6) (X := mN (fun _ => none, N) (.inr (3, mZ3))) hC (c_X3_init l (Y0 Z) N (mN (fun _ => none, N) (.inr (3, mZ3))).1 (mN_at (X := (fun _ => none, N)))) kX3_init wm_RL_9 rfl (fun q z => z) (by show _ ≤ 600000; omega) (by show _ ≤ 7302250; omega) rfl dL_law_4 rfl (fun X1 hq => ?_)
  obtain ⟨M1, z1⟩ := X1
  obtain ⟨hz1, hn1, hk1⟩ := hq
  obtain rfl : z1 = N + 85 := hz1
  refine gx_astore_n (lv' := [(1, .ref N), (0, .ref b)]) hX dL_law_7 rfl (by decide) rfl ?_
  refine mx_new (ci := 4) (T := TX4) (fs := mZ4) (ty := tyX4) (X := (M1, N + 85)) hC wl_RL_10 wa_RX4 wn_RX4 inlX4 tyX4_ok rfl dvX4 (by show _ ≤ 600000; omega) (by show _ ≤ 7302250; omega) dL_law_8 rfl ?_
  refine gx_topr (b := N + 85) rfl ?_
  refine gx_dup hX dL_law_11 rfl rfl ?_
  refine mx_callI (ck := 0 + 1 + 84 + 1) (cn := 0 + 6 + 777 + 12) (X := mN (M1, N + 85) (.inr (4, mZ4))) hC (c_X4_init l (Y0 Z) (N + 85) (mN (M1, N + 85) (.inr (4, mZ4))).1 (mN_at (X := (M1, N + 85)))) kX4_init wm_RL_12 rfl (fun q z => by have z2 : N + 85 ≤ q := z; show N ≤ q; omega) (by show _ ≤ 600000; omega) (by show _ ≤ 7302250; omega) rfl dL_law_12 rfl (fun X2 hq2 => ?_)
  obtain ⟨M2, z2⟩ := X2
  obtain ⟨hz2, hm2, hk2⟩ := hq2
  obtain rfl : z2 = N + 85 + 10 := hz2
  refine gx_astore_n (lv' := [(2, .ref (N + 85)), (1, .ref N), (0, .ref b)]) hX dL_law_15 rfl (by decide) rfl ?_
  have hn2 : mNb (Y0 Z) M2 N := hn1.keep (fun b h1 h2 => (hk2 b (by omega)).trans (mN_ne (X := (M1, N + 85)) (by show b ≠ N + 85; omega)))
  refine lx_world (HP1 := lP (Yc N Z) (Ym (N + 85) Z)) (x1 := (σc N, σm)) (fun H h => ⟨yP h hn2, xP h hm2⟩) ?_
  refine gx_iconst (v := 0) hX dL_law_16 rfl (by decide) ?_
  refine gx_istore_n (lv' := [(3, .int 0), (2, .ref (N + 85)), (1, .ref N), (0, .ref b)]) hX dL_law_17 rfl (by decide) rfl ?_
  have h := law_loop (p := p) (e := e) (m := m) (below := below) (meth := meth) (c := c) l hL hN hC hXs hbl
  rw [hN] at h
  exact h
