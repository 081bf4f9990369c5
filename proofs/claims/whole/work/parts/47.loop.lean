set_option maxRecDepth 100000 in
set_option maxHeartbeats 4000000 in
theorem law_loop {p : Program} {e : Env} {s : State} {m : MethodId} {below : List Frame} {meth : Method} {c : Code} (l : Launch) {b L N : Nat} {xs : Nat → Int32} {Z : va_G × ClassId × ClassId × ClassId × ClassId} (hL : L ≤ 3072) (hN : s.heap.size = N) (hC : gOK p s m #[Value.ref b] meth c (Y0 Z) cL_law 4 RL ret) (hXs : va_X b L xs s s.heap) (hbl : b < s.heap.size) : gW p l e room_1 s m #[Value.ref b] below meth c (lP (Yc N Z) (Ym (N + 85) Z)) (fun q => s.heap.size ≤ q) 95 1553 (lw_Z below #[Value.ref b] s) (σc N, σm) 18 [(3, .int 0), (2, .ref (N + 85)), (1, .ref N), (0, .ref b)] [] := by
  have hX := hC.1
  have hC1 : gOK p s m #[Value.ref b] meth c (Yc N Z) cL_law 4 RL ret := hC
  have hC2 : gOK p s m #[Value.ref b] meth c (Ym (N + 85) Z) cL_law 4 RL ret := hC
  have hbA : ¬ s.heap.size ≤ b := Nat.not_le.mpr hbl
  obtain ⟨⟨hx, hb, -⟩, -, -, -, hlk, hr⟩ := id hC
  have L18 : ∀ (k18 : Nat) (i : Nat) (σ1 σ2 : gS) (a : qA), L + 1 - i < k18 → (i ≤ L) → (zA (Yc N Z) N σ1 a) → (gMA (Ym (N + 85) Z) (N + 85) σ2 a) → (qAI a (2 * i)) → gW p l e room_1 s m #[Value.ref b] below meth c (lP (Yc N Z) (Ym (N + 85) Z)) (fun q => s.heap.size ≤ q) 95 1553 (lw_Z below #[Value.ref b] s) (σ1, σ2) 18 [(0, .ref b), (1, .ref N), (2, .ref (N + 85)), (3, .int (nI i))] [] := by
    intro k18
    induction k18 with
    | zero => intro i σ1 σ2 a hk18; exact absurd hk18 (Nat.not_lt_zero _)
    | succ k18 ih18 =>
      intro i σ1 σ2 a hk18 hi hA1 hA2 hI
      obtain ⟨r, n, P, q, cn⟩ := a
      have hBB : 2 * i + 12 < 2 ^ 30 := by omega
      refine gx_iload_n hX 3 dL_law_18 rfl rfl ?_
      refine gx_aload_n hX 0 dL_law_19 rfl rfl ?_
      refine lx_slen hC hXs hbl hbA dL_law_20 rfl ?_
      refine gx_bipush (v := 6) hX dL_law_21 rfl (by decide) ?_
      refine gx_isub hX dL_law_23 rfl ?_
      refine gx_icmp_gt (tgt := 757) hX dL_law_24 (by decide) rfl (fun h24 => ?_) (fun h24 => ?_)
      · refine gx_iconst (v := 1) hX dL_law_757 rfl (by decide) ?_
        exact lx_ret hx hb hr hlk dL_law_758 (by omega) (by omega)
      · have hiL := ltop hL (by omega) h24
        refine gx_aload_n hX 0 dL_law_27 rfl rfl ?_
        refine gx_iload_n hX 3 dL_law_28 rfl rfl ?_
        refine lx_sld (i := i) hC hXs hbl hbA rfl (by omega) hL dL_law_29 rfl ?_
        refine gx_bipush (v := 31) hX dL_law_30 rfl (by decide) ?_
        refine gx_iand hX dL_law_32 rfl ?_
        by_cases t33_0 : ((xs i) &&& 31) = 0
        · refine gx_tableIn (tgt := 152) hX dL_law_33 0 t33_0 (by decide) (by decide) rfl (by decide) ?_
          refine gx_aload_n hX 1 dL_law_152 rfl rfl ?_
          refine gx_aload_n hX 0 dL_law_153 rfl rfl ?_
          refine gx_iload_n hX 3 dL_law_154 rfl rfl ?_
          refine gx_iconst (v := 1) hX dL_law_155 rfl (by decide) ?_
          refine gx_iaddN (i := i) (j := 1) hX dL_law_156 rfl rfl rfl ?_
          refine lx_sld (i := (i + 1)) hC hXs hbl hbA rfl (by omega) hL dL_law_157 rfl ?_
          refine gx_aload_n hX 0 dL_law_158 rfl rfl ?_
          refine gx_iload_n hX 3 dL_law_159 rfl rfl ?_
          refine gx_iconst (v := 2) hX dL_law_160 rfl (by decide) ?_
          refine gx_iaddN (i := i) (j := 2) hX dL_law_161 rfl rfl rfl ?_
          refine lx_sld (i := (i + 2)) hC hXs hbl hbA rfl (by omega) hL dL_law_162 rfl ?_
          refine gx_aload_n hX 0 dL_law_163 rfl rfl ?_
          refine gx_iload_n hX 3 dL_law_164 rfl rfl ?_
          refine gx_iconst (v := 3) hX dL_law_165 rfl (by decide) ?_
          refine gx_iaddN (i := i) (j := 3) hX dL_law_166 rfl rfl rfl ?_
          refine lx_sld (i := (i + 3)) hC hXs hbl hbA rfl (by omega) hL dL_law_167 rfl ?_
          refine gx_aload_n hX 0 dL_law_168 rfl rfl ?_
          refine gx_iload_n hX 3 dL_law_169 rfl rfl ?_
          refine gx_iconst (v := 4) hX dL_law_170 rfl (by decide) ?_
          refine gx_iaddN (i := i) (j := 4) hX dL_law_171 rfl rfl rfl ?_
          refine lx_sld (i := (i + 4)) hC hXs hbl hbA rfl (by omega) hL dL_law_172 rfl ?_
          refine lx_call (As := [.int (xs (i + 1)), .int (xs (i + 2)), .int (xs (i + 3)), .int (xs (i + 4))]) (st := []) (σ := σ1) hC1 (up := fun τ => (τ, σ2)) (fun H h => h.1) (fun τ H H1 h h1 hf => ⟨h1, gP_keep lyd2 h.2 hf⟩) (fun q h => lyA hN h) (c_X3_addCell l (Yc N Z) N σ1 r n P q cn yLC hA1 (2 * i) hBB hI (xs (i + 1)) (xs (i + 2)) (xs (i + 3)) (xs (i + 4))) kX3_addCell wm_RL_13 rfl yK0 rfl rfl rfl rfl rfl dL_law_173 rfl (lx_ki fun r173 τ173 hq173 => ?_)
          refine gx_aload_n hX 2 dL_law_176 rfl rfl ?_
          refine gx_aload_n hX 0 dL_law_177 rfl rfl ?_
          refine gx_iload_n hX 3 dL_law_178 rfl rfl ?_
          refine gx_iconst (v := 1) hX dL_law_179 rfl (by decide) ?_
          refine gx_iaddN (i := i) (j := 1) hX dL_law_180 rfl rfl rfl ?_
          refine lx_sld (i := (i + 1)) hC hXs hbl hbA rfl (by omega) hL dL_law_181 rfl ?_
          refine gx_aload_n hX 0 dL_law_182 rfl rfl ?_
          refine gx_iload_n hX 3 dL_law_183 rfl rfl ?_
          refine gx_iconst (v := 2) hX dL_law_184 rfl (by decide) ?_
          refine gx_iaddN (i := i) (j := 2) hX dL_law_185 rfl rfl rfl ?_
          refine lx_sld (i := (i + 2)) hC hXs hbl hbA rfl (by omega) hL dL_law_186 rfl ?_
          refine gx_aload_n hX 0 dL_law_187 rfl rfl ?_
          refine gx_iload_n hX 3 dL_law_188 rfl rfl ?_
          refine gx_iconst (v := 3) hX dL_law_189 rfl (by decide) ?_
          refine gx_iaddN (i := i) (j := 3) hX dL_law_190 rfl rfl rfl ?_
          refine lx_sld (i := (i + 3)) hC hXs hbl hbA rfl (by omega) hL dL_law_191 rfl ?_
          refine gx_aload_n hX 0 dL_law_192 rfl rfl ?_
          refine gx_iload_n hX 3 dL_law_193 rfl rfl ?_
          refine gx_iconst (v := 4) hX dL_law_194 rfl (by decide) ?_
          refine gx_iaddN (i := i) (j := 4) hX dL_law_195 rfl rfl rfl ?_
          refine lx_sld (i := (i + 4)) hC hXs hbl hbA rfl (by omega) hL dL_law_196 rfl ?_
          refine lx_call (As := [.int (xs (i + 1)), .int (xs (i + 2)), .int (xs (i + 3)), .int (xs (i + 4))]) (st := [.int r173]) (σ := σ2) hC2 (up := fun τ => (τ173, τ)) (fun H h => h.2) (fun τ H H1 h h1 hf => ⟨gP_keep lyd1 h.1 hf, h1⟩) (fun q h => lxA hN h) (c_X4_addCell l (Ym (N + 85) Z) (N + 85) σ2 r n P q cn xLM hA2 (2 * i) hBB hI (xs (i + 1)) (xs (i + 2)) (xs (i + 3)) (xs (i + 4))) kX4_addCell wm_RL_17 rfl xK0 rfl rfl rfl rfl rfl dL_law_197 rfl (lx_ki fun r197 τ197 hq197 => ?_)
          refine gx_icmp_eq_t (tgt := 751) hX dL_law_200 (by decide) (fun z => z (hq173.1.symm.trans hq197.1)) ?_
          refine gx_iinc (w := (nI (i + 6))) (lv' := [(3, .int (nI (i + 6))), (0, .ref b), (1, .ref N), (2, .ref (N + 85))]) hX 3 dL_law_751 rfl rfl (nI_add _ _) (by decide) rfl ?_
          refine gx_goto (pc' := 18) hX dL_law_754 (by decide) ?_
          exact gx_sub [1, 2, 3, 0] rfl (ih18 (i + 6) τ173 τ197 (qaddCell (r, n, P, q, cn) (xs (i + 1)) (xs (i + 2)) (xs (i + 3)) (xs (i + 4))).2 (by omega) (by omega) hq173.2 hq197.2 (by rw [show 2 * (i + 6) = 2 * i + 12 by omega]; exact qS_addCell hI hBB _ _ _ _))
        by_cases t33_1 : ((xs i) &&& 31) = 1
        · refine gx_tableIn (tgt := 205) hX dL_law_33 1 t33_1 (by decide) (by decide) rfl (by decide) ?_
          refine gx_aload_n hX 1 dL_law_205 rfl rfl ?_
          refine gx_aload_n hX 0 dL_law_206 rfl rfl ?_
          refine gx_iload_n hX 3 dL_law_207 rfl rfl ?_
          refine gx_iconst (v := 1) hX dL_law_208 rfl (by decide) ?_
          refine gx_iaddN (i := i) (j := 1) hX dL_law_209 rfl rfl rfl ?_
          refine lx_sld (i := (i + 1)) hC hXs hbl hbA rfl (by omega) hL dL_law_210 rfl ?_
          refine gx_aload_n hX 0 dL_law_211 rfl rfl ?_
          refine gx_iload_n hX 3 dL_law_212 rfl rfl ?_
          refine gx_iconst (v := 2) hX dL_law_213 rfl (by decide) ?_
          refine gx_iaddN (i := i) (j := 2) hX dL_law_214 rfl rfl rfl ?_
          refine lx_sld (i := (i + 2)) hC hXs hbl hbA rfl (by omega) hL dL_law_215 rfl ?_
          refine gx_aload_n hX 0 dL_law_216 rfl rfl ?_
          refine gx_iload_n hX 3 dL_law_217 rfl rfl ?_
          refine gx_iconst (v := 3) hX dL_law_218 rfl (by decide) ?_
          refine gx_iaddN (i := i) (j := 3) hX dL_law_219 rfl rfl rfl ?_
          refine lx_sld (i := (i + 3)) hC hXs hbl hbA rfl (by omega) hL dL_law_220 rfl ?_
          refine gx_aload_n hX 0 dL_law_221 rfl rfl ?_
          refine gx_iload_n hX 3 dL_law_222 rfl rfl ?_
          refine gx_iconst (v := 4) hX dL_law_223 rfl (by decide) ?_
          refine gx_iaddN (i := i) (j := 4) hX dL_law_224 rfl rfl rfl ?_
          refine lx_sld (i := (i + 4)) hC hXs hbl hbA rfl (by omega) hL dL_law_225 rfl ?_
          refine gx_aload_n hX 0 dL_law_226 rfl rfl ?_
          refine gx_iload_n hX 3 dL_law_227 rfl rfl ?_
          refine gx_iconst (v := 5) hX dL_law_228 rfl (by decide) ?_
          refine gx_iaddN (i := i) (j := 5) hX dL_law_229 rfl rfl rfl ?_
          refine lx_sld (i := (i + 5)) hC hXs hbl hbA rfl (by omega) hL dL_law_230 rfl ?_
          refine lx_call (As := [.int (xs (i + 1)), .int (xs (i + 2)), .int (xs (i + 3)), .int (xs (i + 4)), .int (xs (i + 5))]) (st := []) (σ := σ1) hC1 (up := fun τ => (τ, σ2)) (fun H h => h.1) (fun τ H H1 h h1 hf => ⟨h1, gP_keep lyd2 h.2 hf⟩) (fun q h => lyA hN h) (c_X3_editCell l (Yc N Z) N σ1 r n P q cn yLC hA1 (2 * i) hBB hI (xs (i + 1)) (xs (i + 2)) (xs (i + 3)) (xs (i + 4)) (xs (i + 5))) kX3_editCell wm_RL_18 rfl yK0 rfl rfl rfl rfl rfl dL_law_231 rfl (lx_ki fun r231 τ231 hq231 => ?_)
          refine gx_aload_n hX 2 dL_law_234 rfl rfl ?_
          refine gx_aload_n hX 0 dL_law_235 rfl rfl ?_
          refine gx_iload_n hX 3 dL_law_236 rfl rfl ?_
          refine gx_iconst (v := 1) hX dL_law_237 rfl (by decide) ?_
          refine gx_iaddN (i := i) (j := 1) hX dL_law_238 rfl rfl rfl ?_
          refine lx_sld (i := (i + 1)) hC hXs hbl hbA rfl (by omega) hL dL_law_239 rfl ?_
          refine gx_aload_n hX 0 dL_law_240 rfl rfl ?_
          refine gx_iload_n hX 3 dL_law_241 rfl rfl ?_
          refine gx_iconst (v := 2) hX dL_law_242 rfl (by decide) ?_
          refine gx_iaddN (i := i) (j := 2) hX dL_law_243 rfl rfl rfl ?_
          refine lx_sld (i := (i + 2)) hC hXs hbl hbA rfl (by omega) hL dL_law_244 rfl ?_
          refine gx_aload_n hX 0 dL_law_245 rfl rfl ?_
          refine gx_iload_n hX 3 dL_law_246 rfl rfl ?_
          refine gx_iconst (v := 3) hX dL_law_247 rfl (by decide) ?_
          refine gx_iaddN (i := i) (j := 3) hX dL_law_248 rfl rfl rfl ?_
          refine lx_sld (i := (i + 3)) hC hXs hbl hbA rfl (by omega) hL dL_law_249 rfl ?_
          refine gx_aload_n hX 0 dL_law_250 rfl rfl ?_
          refine gx_iload_n hX 3 dL_law_251 rfl rfl ?_
          refine gx_iconst (v := 4) hX dL_law_252 rfl (by decide) ?_
          refine gx_iaddN (i := i) (j := 4) hX dL_law_253 rfl rfl rfl ?_
          refine lx_sld (i := (i + 4)) hC hXs hbl hbA rfl (by omega) hL dL_law_254 rfl ?_
          refine gx_aload_n hX 0 dL_law_255 rfl rfl ?_
          refine gx_iload_n hX 3 dL_law_256 rfl rfl ?_
          refine gx_iconst (v := 5) hX dL_law_257 rfl (by decide) ?_
          refine gx_iaddN (i := i) (j := 5) hX dL_law_258 rfl rfl rfl ?_
          refine lx_sld (i := (i + 5)) hC hXs hbl hbA rfl (by omega) hL dL_law_259 rfl ?_
          refine lx_call (As := [.int (xs (i + 1)), .int (xs (i + 2)), .int (xs (i + 3)), .int (xs (i + 4)), .int (xs (i + 5))]) (st := [.int r231]) (σ := σ2) hC2 (up := fun τ => (τ231, τ)) (fun H h => h.2) (fun τ H H1 h h1 hf => ⟨gP_keep lyd1 h.1 hf, h1⟩) (fun q h => lxA hN h) (c_X4_editCell l (Ym (N + 85) Z) (N + 85) σ2 r n P q cn xLM hA2 (2 * i) hBB hI (xs (i + 1)) (xs (i + 2)) (xs (i + 3)) (xs (i + 4)) (xs (i + 5))) kX4_editCell wm_RL_22 rfl xK0 rfl rfl rfl rfl rfl dL_law_260 rfl (lx_ki fun r260 τ260 hq260 => ?_)
          refine gx_icmp_eq_t (tgt := 751) hX dL_law_263 (by decide) (fun z => z (hq231.1.symm.trans hq260.1)) ?_
          refine gx_iinc (w := (nI (i + 6))) (lv' := [(3, .int (nI (i + 6))), (0, .ref b), (1, .ref N), (2, .ref (N + 85))]) hX 3 dL_law_751 rfl rfl (nI_add _ _) (by decide) rfl ?_
          refine gx_goto (pc' := 18) hX dL_law_754 (by decide) ?_
          exact gx_sub [1, 2, 3, 0] rfl (ih18 (i + 6) τ231 τ260 (qeditCell (r, n, P, q, cn) (xs (i + 1)) (xs (i + 2)) (xs (i + 3)) (xs (i + 4)) (xs (i + 5))).2 (by omega) (by omega) hq231.2 hq260.2 (by rw [show 2 * (i + 6) = 2 * i + 12 by omega]; exact qS_editCell hI hBB _ _ _ _ _))
        by_cases t33_2 : ((xs i) &&& 31) = 2
        · refine gx_tableIn (tgt := 268) hX dL_law_33 2 t33_2 (by decide) (by decide) rfl (by decide) ?_
          refine gx_aload_n hX 1 dL_law_268 rfl rfl ?_
          refine gx_aload_n hX 0 dL_law_269 rfl rfl ?_
          refine gx_iload_n hX 3 dL_law_270 rfl rfl ?_
          refine gx_iconst (v := 1) hX dL_law_271 rfl (by decide) ?_
          refine gx_iaddN (i := i) (j := 1) hX dL_law_272 rfl rfl rfl ?_
          refine lx_sld (i := (i + 1)) hC hXs hbl hbA rfl (by omega) hL dL_law_273 rfl ?_
          refine lx_call (As := [.int (xs (i + 1))]) (st := []) (σ := σ1) hC1 (up := fun τ => (τ, σ2)) (fun H h => h.1) (fun τ H H1 h h1 hf => ⟨h1, gP_keep lyd2 h.2 hf⟩) (fun q h => lyA hN h) (c_X3_deleteCell l (Yc N Z) N σ1 r n P q cn yLC hA1 (2 * i) hBB hI (xs (i + 1))) kX3_deleteCell wm_RL_23 rfl yK0 rfl rfl rfl rfl rfl dL_law_274 rfl (lx_ki fun r274 τ274 hq274 => ?_)
          refine gx_aload_n hX 2 dL_law_277 rfl rfl ?_
          refine gx_aload_n hX 0 dL_law_278 rfl rfl ?_
          refine gx_iload_n hX 3 dL_law_279 rfl rfl ?_
          refine gx_iconst (v := 1) hX dL_law_280 rfl (by decide) ?_
          refine gx_iaddN (i := i) (j := 1) hX dL_law_281 rfl rfl rfl ?_
          refine lx_sld (i := (i + 1)) hC hXs hbl hbA rfl (by omega) hL dL_law_282 rfl ?_
          refine lx_call (As := [.int (xs (i + 1))]) (st := [.int r274]) (σ := σ2) hC2 (up := fun τ => (τ274, τ)) (fun H h => h.2) (fun τ H H1 h h1 hf => ⟨gP_keep lyd1 h.1 hf, h1⟩) (fun q h => lxA hN h) (c_X4_deleteCell l (Ym (N + 85) Z) (N + 85) σ2 r n P q cn xLM hA2 (2 * i) hBB hI (xs (i + 1))) kX4_deleteCell wm_RL_27 rfl xK0 rfl rfl rfl rfl rfl dL_law_283 rfl (lx_ki fun r283 τ283 hq283 => ?_)
          refine gx_icmp_eq_t (tgt := 751) hX dL_law_286 (by decide) (fun z => z (hq274.1.symm.trans hq283.1)) ?_
          refine gx_iinc (w := (nI (i + 6))) (lv' := [(3, .int (nI (i + 6))), (0, .ref b), (1, .ref N), (2, .ref (N + 85))]) hX 3 dL_law_751 rfl rfl (nI_add _ _) (by decide) rfl ?_
          refine gx_goto (pc' := 18) hX dL_law_754 (by decide) ?_
          exact gx_sub [1, 2, 3, 0] rfl (ih18 (i + 6) τ274 τ283 (qdeleteCell (r, n, P, q, cn) (xs (i + 1))).2 (by omega) (by omega) hq274.2 hq283.2 (by rw [show 2 * (i + 6) = 2 * i + 12 by omega]; exact qS_deleteCell hI hBB _))
        by_cases t33_3 : ((xs i) &&& 31) = 3
        · refine gx_tableIn (tgt := 291) hX dL_law_33 3 t33_3 (by decide) (by decide) rfl (by decide) ?_
          refine gx_aload_n hX 1 dL_law_291 rfl rfl ?_
          refine gx_aload_n hX 0 dL_law_292 rfl rfl ?_
          refine gx_iload_n hX 3 dL_law_293 rfl rfl ?_
          refine gx_iconst (v := 1) hX dL_law_294 rfl (by decide) ?_
          refine gx_iaddN (i := i) (j := 1) hX dL_law_295 rfl rfl rfl ?_
          refine lx_sld (i := (i + 1)) hC hXs hbl hbA rfl (by omega) hL dL_law_296 rfl ?_
          refine gx_aload_n hX 0 dL_law_297 rfl rfl ?_
          refine gx_iload_n hX 3 dL_law_298 rfl rfl ?_
          refine gx_iconst (v := 2) hX dL_law_299 rfl (by decide) ?_
          refine gx_iaddN (i := i) (j := 2) hX dL_law_300 rfl rfl rfl ?_
          refine lx_sld (i := (i + 2)) hC hXs hbl hbA rfl (by omega) hL dL_law_301 rfl ?_
          refine lx_call (As := [.int (xs (i + 1)), .int (xs (i + 2))]) (st := []) (σ := σ1) hC1 (up := fun τ => (τ, σ2)) (fun H h => h.1) (fun τ H H1 h h1 hf => ⟨h1, gP_keep lyd2 h.2 hf⟩) (fun q h => lyA hN h) (c_X3_moveCell l (Yc N Z) N σ1 r n P q cn yLC hA1 (2 * i) hBB hI (xs (i + 1)) (xs (i + 2))) kX3_moveCell wm_RL_28 rfl yK0 rfl rfl rfl rfl rfl dL_law_302 rfl (lx_ki fun r302 τ302 hq302 => ?_)
          refine gx_aload_n hX 2 dL_law_305 rfl rfl ?_
          refine gx_aload_n hX 0 dL_law_306 rfl rfl ?_
          refine gx_iload_n hX 3 dL_law_307 rfl rfl ?_
          refine gx_iconst (v := 1) hX dL_law_308 rfl (by decide) ?_
          refine gx_iaddN (i := i) (j := 1) hX dL_law_309 rfl rfl rfl ?_
          refine lx_sld (i := (i + 1)) hC hXs hbl hbA rfl (by omega) hL dL_law_310 rfl ?_
          refine gx_aload_n hX 0 dL_law_311 rfl rfl ?_
          refine gx_iload_n hX 3 dL_law_312 rfl rfl ?_
          refine gx_iconst (v := 2) hX dL_law_313 rfl (by decide) ?_
          refine gx_iaddN (i := i) (j := 2) hX dL_law_314 rfl rfl rfl ?_
          refine lx_sld (i := (i + 2)) hC hXs hbl hbA rfl (by omega) hL dL_law_315 rfl ?_
          refine lx_call (As := [.int (xs (i + 1)), .int (xs (i + 2))]) (st := [.int r302]) (σ := σ2) hC2 (up := fun τ => (τ302, τ)) (fun H h => h.2) (fun τ H H1 h h1 hf => ⟨gP_keep lyd1 h.1 hf, h1⟩) (fun q h => lxA hN h) (c_X4_moveCell l (Ym (N + 85) Z) (N + 85) σ2 r n P q cn xLM hA2 (2 * i) hBB hI (xs (i + 1)) (xs (i + 2))) kX4_moveCell wm_RL_32 rfl xK0 rfl rfl rfl rfl rfl dL_law_316 rfl (lx_ki fun r316 τ316 hq316 => ?_)
          refine gx_icmp_eq_t (tgt := 751) hX dL_law_319 (by decide) (fun z => z (hq302.1.symm.trans hq316.1)) ?_
          refine gx_iinc (w := (nI (i + 6))) (lv' := [(3, .int (nI (i + 6))), (0, .ref b), (1, .ref N), (2, .ref (N + 85))]) hX 3 dL_law_751 rfl rfl (nI_add _ _) (by decide) rfl ?_
          refine gx_goto (pc' := 18) hX dL_law_754 (by decide) ?_
          exact gx_sub [1, 2, 3, 0] rfl (ih18 (i + 6) τ302 τ316 (qmoveCell (r, n, P, q, cn) (xs (i + 1)) (xs (i + 2))).2 (by omega) (by omega) hq302.2 hq316.2 (by rw [show 2 * (i + 6) = 2 * i + 12 by omega]; exact qS_moveCell hI hBB _ _))
        by_cases t33_4 : ((xs i) &&& 31) = 4
        · refine gx_tableIn (tgt := 324) hX dL_law_33 4 t33_4 (by decide) (by decide) rfl (by decide) ?_
          refine gx_aload_n hX 1 dL_law_324 rfl rfl ?_
          refine gx_aload_n hX 0 dL_law_325 rfl rfl ?_
          refine gx_iload_n hX 3 dL_law_326 rfl rfl ?_
          refine gx_iconst (v := 1) hX dL_law_327 rfl (by decide) ?_
          refine gx_iaddN (i := i) (j := 1) hX dL_law_328 rfl rfl rfl ?_
          refine lx_sld (i := (i + 1)) hC hXs hbl hbA rfl (by omega) hL dL_law_329 rfl ?_
          refine lx_call (As := [.int (xs (i + 1))]) (st := []) (σ := σ1) hC1 (up := fun τ => (τ, σ2)) (fun H h => h.1) (fun τ H H1 h h1 hf => ⟨h1, gP_keep lyd2 h.2 hf⟩) (fun q h => lyA hN h) (c_X3_setEager l (Yc N Z) N σ1 r n P q cn yLC hA1 (2 * i) hBB hI (xs (i + 1))) kX3_setEager wm_RL_33 rfl yK0 rfl rfl rfl rfl rfl dL_law_330 rfl (lx_ki fun r330 τ330 hq330 => ?_)
          refine gx_aload_n hX 2 dL_law_333 rfl rfl ?_
          refine gx_aload_n hX 0 dL_law_334 rfl rfl ?_
          refine gx_iload_n hX 3 dL_law_335 rfl rfl ?_
          refine gx_iconst (v := 1) hX dL_law_336 rfl (by decide) ?_
          refine gx_iaddN (i := i) (j := 1) hX dL_law_337 rfl rfl rfl ?_
          refine lx_sld (i := (i + 1)) hC hXs hbl hbA rfl (by omega) hL dL_law_338 rfl ?_
          refine lx_call (As := [.int (xs (i + 1))]) (st := [.int r330]) (σ := σ2) hC2 (up := fun τ => (τ330, τ)) (fun H h => h.2) (fun τ H H1 h h1 hf => ⟨gP_keep lyd1 h.1 hf, h1⟩) (fun q h => lxA hN h) (c_X4_setEager l (Ym (N + 85) Z) (N + 85) σ2 r n P q cn xLM hA2 (2 * i) hBB hI (xs (i + 1))) kX4_setEager wm_RL_36 rfl xK0 rfl rfl rfl rfl rfl dL_law_339 rfl (lx_ki fun r339 τ339 hq339 => ?_)
          refine gx_icmp_eq_t (tgt := 751) hX dL_law_342 (by decide) (fun z => z (hq330.1.symm.trans hq339.1)) ?_
          refine gx_iinc (w := (nI (i + 6))) (lv' := [(3, .int (nI (i + 6))), (0, .ref b), (1, .ref N), (2, .ref (N + 85))]) hX 3 dL_law_751 rfl rfl (nI_add _ _) (by decide) rfl ?_
          refine gx_goto (pc' := 18) hX dL_law_754 (by decide) ?_
          exact gx_sub [1, 2, 3, 0] rfl (ih18 (i + 6) τ330 τ339 (qsetEager (r, n, P, q, cn) (xs (i + 1))).2 (by omega) (by omega) hq330.2 hq339.2 (by rw [show 2 * (i + 6) = 2 * i + 12 by omega]; exact qS_setEager hI hBB _))
        by_cases t33_5 : ((xs i) &&& 31) = 5
        · refine gx_tableIn (tgt := 347) hX dL_law_33 5 t33_5 (by decide) (by decide) rfl (by decide) ?_
          refine gx_aload_n hX 1 dL_law_347 rfl rfl ?_
          refine lx_call (As := []) (st := []) (σ := σ1) hC1 (up := fun τ => (τ, σ2)) (fun H h => h.1) (fun τ H H1 h h1 hf => ⟨h1, gP_keep lyd2 h.2 hf⟩) (fun q h => lyA hN h) (c_X3_runStale l (Yc N Z) N σ1 r n P q cn yLC hA1 (2 * i) hBB hI ) kX3_runStale wm_RL_37 rfl yK0 rfl rfl rfl rfl rfl dL_law_348 rfl (lx_ki fun r348 τ348 hq348 => ?_)
          refine gx_aload_n hX 2 dL_law_351 rfl rfl ?_
          refine lx_call (As := []) (st := [.int r348]) (σ := σ2) hC2 (up := fun τ => (τ348, τ)) (fun H h => h.2) (fun τ H H1 h h1 hf => ⟨gP_keep lyd1 h.1 hf, h1⟩) (fun q h => lxA hN h) (c_X4_runStale l (Ym (N + 85) Z) (N + 85) σ2 r n P q cn xLM hA2 (2 * i) hBB hI ) kX4_runStale wm_RL_41 rfl xK0 rfl rfl rfl rfl rfl dL_law_352 rfl (lx_ki fun r352 τ352 hq352 => ?_)
          refine gx_icmp_eq_t (tgt := 751) hX dL_law_355 (by decide) (fun z => z (hq348.1.symm.trans hq352.1)) ?_
          refine gx_iinc (w := (nI (i + 6))) (lv' := [(3, .int (nI (i + 6))), (0, .ref b), (1, .ref N), (2, .ref (N + 85))]) hX 3 dL_law_751 rfl rfl (nI_add _ _) (by decide) rfl ?_
          refine gx_goto (pc' := 18) hX dL_law_754 (by decide) ?_
          exact gx_sub [1, 2, 3, 0] rfl (ih18 (i + 6) τ348 τ352 (qrunStale (r, n, P, q, cn)).2 (by omega) (by omega) hq348.2 hq352.2 (by rw [show 2 * (i + 6) = 2 * i + 12 by omega]; exact qS_runStale hI hBB))
        by_cases t33_6 : ((xs i) &&& 31) = 6
        · refine gx_tableIn (tgt := 360) hX dL_law_33 6 t33_6 (by decide) (by decide) rfl (by decide) ?_
          refine gx_aload_n hX 1 dL_law_360 rfl rfl ?_
          refine gx_aload_n hX 0 dL_law_361 rfl rfl ?_
          refine gx_iload_n hX 3 dL_law_362 rfl rfl ?_
          refine gx_iconst (v := 1) hX dL_law_363 rfl (by decide) ?_
          refine gx_iaddN (i := i) (j := 1) hX dL_law_364 rfl rfl rfl ?_
          refine lx_sld (i := (i + 1)) hC hXs hbl hbA rfl (by omega) hL dL_law_365 rfl ?_
          refine lx_call (As := [.int (xs (i + 1))]) (st := []) (σ := σ1) hC1 (up := fun τ => (τ, σ2)) (fun H h => h.1) (fun τ H H1 h h1 hf => ⟨h1, gP_keep lyd2 h.2 hf⟩) (fun q h => lyA hN h) (c_X3_runCell l (Yc N Z) N σ1 r n P q cn yLC hA1 (2 * i) hBB hI (xs (i + 1))) kX3_runCell wm_RL_42 rfl yK0 rfl rfl rfl rfl rfl dL_law_366 rfl (lx_ki fun r366 τ366 hq366 => ?_)
          refine gx_aload_n hX 2 dL_law_369 rfl rfl ?_
          refine gx_aload_n hX 0 dL_law_370 rfl rfl ?_
          refine gx_iload_n hX 3 dL_law_371 rfl rfl ?_
          refine gx_iconst (v := 1) hX dL_law_372 rfl (by decide) ?_
          refine gx_iaddN (i := i) (j := 1) hX dL_law_373 rfl rfl rfl ?_
          refine lx_sld (i := (i + 1)) hC hXs hbl hbA rfl (by omega) hL dL_law_374 rfl ?_
          refine lx_call (As := [.int (xs (i + 1))]) (st := [.int r366]) (σ := σ2) hC2 (up := fun τ => (τ366, τ)) (fun H h => h.2) (fun τ H H1 h h1 hf => ⟨gP_keep lyd1 h.1 hf, h1⟩) (fun q h => lxA hN h) (c_X4_runCell l (Ym (N + 85) Z) (N + 85) σ2 r n P q cn xLM hA2 (2 * i) hBB hI (xs (i + 1))) kX4_runCell wm_RL_45 rfl xK0 rfl rfl rfl rfl rfl dL_law_375 rfl (lx_ki fun r375 τ375 hq375 => ?_)
          refine gx_icmp_eq_t (tgt := 751) hX dL_law_378 (by decide) (fun z => z (hq366.1.symm.trans hq375.1)) ?_
          refine gx_iinc (w := (nI (i + 6))) (lv' := [(3, .int (nI (i + 6))), (0, .ref b), (1, .ref N), (2, .ref (N + 85))]) hX 3 dL_law_751 rfl rfl (nI_add _ _) (by decide) rfl ?_
          refine gx_goto (pc' := 18) hX dL_law_754 (by decide) ?_
          exact gx_sub [1, 2, 3, 0] rfl (ih18 (i + 6) τ366 τ375 (qrunCell (r, n, P, q, cn) (xs (i + 1))).2 (by omega) (by omega) hq366.2 hq375.2 (by rw [show 2 * (i + 6) = 2 * i + 12 by omega]; exact qS_runCell hI hBB _))
        by_cases t33_7 : ((xs i) &&& 31) = 7
        · refine gx_tableIn (tgt := 383) hX dL_law_33 7 t33_7 (by decide) (by decide) rfl (by decide) ?_
          refine gx_aload_n hX 1 dL_law_383 rfl rfl ?_
          refine lx_call (As := []) (st := []) (σ := σ1) hC1 (up := fun τ => (τ, σ2)) (fun H h => h.1) (fun τ H H1 h h1 hf => ⟨h1, gP_keep lyd2 h.2 hf⟩) (fun q h => lyA hN h) (c_X3_lastRunCount l (Yc N Z) N σ1 r n P q cn yLC hA1 (2 * i) hBB hI ) kX3_lastRunCount wm_RL_46 rfl yK0 rfl rfl rfl rfl rfl dL_law_384 rfl (lx_ki fun r384 τ384 hq384 => ?_)
          refine gx_aload_n hX 2 dL_law_387 rfl rfl ?_
          refine lx_call (As := []) (st := [.int r384]) (σ := σ2) hC2 (up := fun τ => (τ384, τ)) (fun H h => h.2) (fun τ H H1 h h1 hf => ⟨gP_keep lyd1 h.1 hf, h1⟩) (fun q h => lxA hN h) (c_X4_lastRunCount l (Ym (N + 85) Z) (N + 85) σ2 r n P q cn xLM hA2 (2 * i) hBB hI ) kX4_lastRunCount wm_RL_49 rfl xK0 rfl rfl rfl rfl rfl dL_law_388 rfl (lx_ki fun r388 τ388 hq388 => ?_)
          refine gx_icmp_eq_t (tgt := 751) hX dL_law_391 (by decide) (fun z => z (hq384.1.symm.trans hq388.1)) ?_
          refine gx_iinc (w := (nI (i + 6))) (lv' := [(3, .int (nI (i + 6))), (0, .ref b), (1, .ref N), (2, .ref (N + 85))]) hX 3 dL_law_751 rfl rfl (nI_add _ _) (by decide) rfl ?_
          refine gx_goto (pc' := 18) hX dL_law_754 (by decide) ?_
          exact gx_sub [1, 2, 3, 0] rfl (ih18 (i + 6) τ384 τ388 (r, n, P, q, cn) (by omega) (by omega) hq384.2 hq388.2 (by rw [show 2 * (i + 6) = 2 * i + 12 by omega]; exact qS_mono hI))
        by_cases t33_8 : ((xs i) &&& 31) = 8
        · refine gx_tableIn (tgt := 396) hX dL_law_33 8 t33_8 (by decide) (by decide) rfl (by decide) ?_
          refine gx_aload_n hX 1 dL_law_396 rfl rfl ?_
          refine gx_aload_n hX 0 dL_law_397 rfl rfl ?_
          refine gx_iload_n hX 3 dL_law_398 rfl rfl ?_
          refine gx_iconst (v := 1) hX dL_law_399 rfl (by decide) ?_
          refine gx_iaddN (i := i) (j := 1) hX dL_law_400 rfl rfl rfl ?_
          refine lx_sld (i := (i + 1)) hC hXs hbl hbA rfl (by omega) hL dL_law_401 rfl ?_
          refine lx_call (As := [.int (xs (i + 1))]) (st := []) (σ := σ1) hC1 (up := fun τ => (τ, σ2)) (fun H h => h.1) (fun τ H H1 h h1 hf => ⟨h1, gP_keep lyd2 h.2 hf⟩) (fun q h => lyA hN h) (c_X3_lastRun l (Yc N Z) N σ1 r n P q cn yLC hA1 (2 * i) hBB hI (xs (i + 1))) kX3_lastRun wm_RL_50 rfl yK0 rfl rfl rfl rfl rfl dL_law_402 rfl (lx_ki fun r402 τ402 hq402 => ?_)
          refine gx_aload_n hX 2 dL_law_405 rfl rfl ?_
          refine gx_aload_n hX 0 dL_law_406 rfl rfl ?_
          refine gx_iload_n hX 3 dL_law_407 rfl rfl ?_
          refine gx_iconst (v := 1) hX dL_law_408 rfl (by decide) ?_
          refine gx_iaddN (i := i) (j := 1) hX dL_law_409 rfl rfl rfl ?_
          refine lx_sld (i := (i + 1)) hC hXs hbl hbA rfl (by omega) hL dL_law_410 rfl ?_
          refine lx_call (As := [.int (xs (i + 1))]) (st := [.int r402]) (σ := σ2) hC2 (up := fun τ => (τ402, τ)) (fun H h => h.2) (fun τ H H1 h h1 hf => ⟨gP_keep lyd1 h.1 hf, h1⟩) (fun q h => lxA hN h) (c_X4_lastRun l (Ym (N + 85) Z) (N + 85) σ2 r n P q cn xLM hA2 (2 * i) hBB hI (xs (i + 1))) kX4_lastRun wm_RL_53 rfl xK0 rfl rfl rfl rfl rfl dL_law_411 rfl (lx_ki fun r411 τ411 hq411 => ?_)
          refine gx_icmp_eq_t (tgt := 751) hX dL_law_414 (by decide) (fun z => z (hq402.1.symm.trans hq411.1)) ?_
          refine gx_iinc (w := (nI (i + 6))) (lv' := [(3, .int (nI (i + 6))), (0, .ref b), (1, .ref N), (2, .ref (N + 85))]) hX 3 dL_law_751 rfl rfl (nI_add _ _) (by decide) rfl ?_
          refine gx_goto (pc' := 18) hX dL_law_754 (by decide) ?_
          exact gx_sub [1, 2, 3, 0] rfl (ih18 (i + 6) τ402 τ411 (qlastRun (r, n, P, q, cn) (xs (i + 1))).2 (by omega) (by omega) hq402.2 hq411.2 (by rw [show 2 * (i + 6) = 2 * i + 12 by omega]; exact qS_lastRun hI _))
        by_cases t33_9 : ((xs i) &&& 31) = 9
        · refine gx_tableIn (tgt := 419) hX dL_law_33 9 t33_9 (by decide) (by decide) rfl (by decide) ?_
          refine gx_aload_n hX 1 dL_law_419 rfl rfl ?_
          refine lx_call (As := []) (st := []) (σ := σ1) hC1 (up := fun τ => (τ, σ2)) (fun H h => h.1) (fun τ H H1 h h1 hf => ⟨h1, gP_keep lyd2 h.2 hf⟩) (fun q h => lyA hN h) (c_X3_cellCount l (Yc N Z) N σ1 r n P q cn yLC hA1 (2 * i) hBB hI ) kX3_cellCount wm_RL_54 rfl yK0 rfl rfl rfl rfl rfl dL_law_420 rfl (lx_ki fun r420 τ420 hq420 => ?_)
          refine gx_aload_n hX 2 dL_law_423 rfl rfl ?_
          refine lx_call (As := []) (st := [.int r420]) (σ := σ2) hC2 (up := fun τ => (τ420, τ)) (fun H h => h.2) (fun τ H H1 h h1 hf => ⟨gP_keep lyd1 h.1 hf, h1⟩) (fun q h => lxA hN h) (c_X4_cellCount l (Ym (N + 85) Z) (N + 85) σ2 r n P q cn xLM hA2 (2 * i) hBB hI ) kX4_cellCount wm_RL_57 rfl xK0 rfl rfl rfl rfl rfl dL_law_424 rfl (lx_ki fun r424 τ424 hq424 => ?_)
          refine gx_icmp_eq_t (tgt := 751) hX dL_law_427 (by decide) (fun z => z (hq420.1.symm.trans hq424.1)) ?_
          refine gx_iinc (w := (nI (i + 6))) (lv' := [(3, .int (nI (i + 6))), (0, .ref b), (1, .ref N), (2, .ref (N + 85))]) hX 3 dL_law_751 rfl rfl (nI_add _ _) (by decide) rfl ?_
          refine gx_goto (pc' := 18) hX dL_law_754 (by decide) ?_
          exact gx_sub [1, 2, 3, 0] rfl (ih18 (i + 6) τ420 τ424 (r, n, P, q, cn) (by omega) (by omega) hq420.2 hq424.2 (by rw [show 2 * (i + 6) = 2 * i + 12 by omega]; exact qS_mono hI))
        by_cases t33_10 : ((xs i) &&& 31) = 10
        · refine gx_tableIn (tgt := 432) hX dL_law_33 10 t33_10 (by decide) (by decide) rfl (by decide) ?_
          refine gx_aload_n hX 1 dL_law_432 rfl rfl ?_
          refine gx_aload_n hX 0 dL_law_433 rfl rfl ?_
          refine gx_iload_n hX 3 dL_law_434 rfl rfl ?_
          refine gx_iconst (v := 1) hX dL_law_435 rfl (by decide) ?_
          refine gx_iaddN (i := i) (j := 1) hX dL_law_436 rfl rfl rfl ?_
          refine lx_sld (i := (i + 1)) hC hXs hbl hbA rfl (by omega) hL dL_law_437 rfl ?_
          refine lx_call (As := [.int (xs (i + 1))]) (st := []) (σ := σ1) hC1 (up := fun τ => (τ, σ2)) (fun H h => h.1) (fun τ H H1 h h1 hf => ⟨h1, gP_keep lyd2 h.2 hf⟩) (fun q h => lyA hN h) (c_X3_variable l (Yc N Z) N σ1 r n P q cn yLC hA1 (2 * i) hBB hI (xs (i + 1))) kX3_variable wm_RL_58 rfl yK0 rfl rfl rfl rfl rfl dL_law_438 rfl (lx_ki fun r438 τ438 hq438 => ?_)
          refine gx_aload_n hX 2 dL_law_441 rfl rfl ?_
          refine gx_aload_n hX 0 dL_law_442 rfl rfl ?_
          refine gx_iload_n hX 3 dL_law_443 rfl rfl ?_
          refine gx_iconst (v := 1) hX dL_law_444 rfl (by decide) ?_
          refine gx_iaddN (i := i) (j := 1) hX dL_law_445 rfl rfl rfl ?_
          refine lx_sld (i := (i + 1)) hC hXs hbl hbA rfl (by omega) hL dL_law_446 rfl ?_
          refine lx_call (As := [.int (xs (i + 1))]) (st := [.int r438]) (σ := σ2) hC2 (up := fun τ => (τ438, τ)) (fun H h => h.2) (fun τ H H1 h h1 hf => ⟨gP_keep lyd1 h.1 hf, h1⟩) (fun q h => lxA hN h) (c_X4_variable l (Ym (N + 85) Z) (N + 85) σ2 r n P q cn xLM hA2 (2 * i) hBB hI (xs (i + 1))) kX4_variable wm_RL_61 rfl xK0 rfl rfl rfl rfl rfl dL_law_447 rfl (lx_ki fun r447 τ447 hq447 => ?_)
          refine gx_icmp_eq_t (tgt := 751) hX dL_law_450 (by decide) (fun z => z (hq438.1.symm.trans hq447.1)) ?_
          refine gx_iinc (w := (nI (i + 6))) (lv' := [(3, .int (nI (i + 6))), (0, .ref b), (1, .ref N), (2, .ref (N + 85))]) hX 3 dL_law_751 rfl rfl (nI_add _ _) (by decide) rfl ?_
          refine gx_goto (pc' := 18) hX dL_law_754 (by decide) ?_
          exact gx_sub [1, 2, 3, 0] rfl (ih18 (i + 6) τ438 τ447 (qof (r, n, P, q, cn) (xs (i + 1)) 0).2 (by omega) (by omega) hq438.2 hq447.2 (by rw [show 2 * (i + 6) = 2 * i + 12 by omega]; exact qS_of hI _ _))
        by_cases t33_11 : ((xs i) &&& 31) = 11
        · refine gx_tableIn (tgt := 455) hX dL_law_33 11 t33_11 (by decide) (by decide) rfl (by decide) ?_
          refine gx_aload_n hX 1 dL_law_455 rfl rfl ?_
          refine gx_aload_n hX 0 dL_law_456 rfl rfl ?_
          refine gx_iload_n hX 3 dL_law_457 rfl rfl ?_
          refine gx_iconst (v := 1) hX dL_law_458 rfl (by decide) ?_
          refine gx_iaddN (i := i) (j := 1) hX dL_law_459 rfl rfl rfl ?_
          refine lx_sld (i := (i + 1)) hC hXs hbl hbA rfl (by omega) hL dL_law_460 rfl ?_
          refine lx_call (As := [.int (xs (i + 1))]) (st := []) (σ := σ1) hC1 (up := fun τ => (τ, σ2)) (fun H h => h.1) (fun τ H H1 h h1 hf => ⟨h1, gP_keep lyd2 h.2 hf⟩) (fun q h => lyA hN h) (c_X3_status l (Yc N Z) N σ1 r n P q cn yLC hA1 (2 * i) hBB hI (xs (i + 1))) kX3_status wm_RL_62 rfl yK0 rfl rfl rfl rfl rfl dL_law_461 rfl (lx_ki fun r461 τ461 hq461 => ?_)
          refine gx_aload_n hX 2 dL_law_464 rfl rfl ?_
          refine gx_aload_n hX 0 dL_law_465 rfl rfl ?_
          refine gx_iload_n hX 3 dL_law_466 rfl rfl ?_
          refine gx_iconst (v := 1) hX dL_law_467 rfl (by decide) ?_
          refine gx_iaddN (i := i) (j := 1) hX dL_law_468 rfl rfl rfl ?_
          refine lx_sld (i := (i + 1)) hC hXs hbl hbA rfl (by omega) hL dL_law_469 rfl ?_
          refine lx_call (As := [.int (xs (i + 1))]) (st := [.int r461]) (σ := σ2) hC2 (up := fun τ => (τ461, τ)) (fun H h => h.2) (fun τ H H1 h h1 hf => ⟨gP_keep lyd1 h.1 hf, h1⟩) (fun q h => lxA hN h) (c_X4_status l (Ym (N + 85) Z) (N + 85) σ2 r n P q cn xLM hA2 (2 * i) hBB hI (xs (i + 1))) kX4_status wm_RL_65 rfl xK0 rfl rfl rfl rfl rfl dL_law_470 rfl (lx_ki fun r470 τ470 hq470 => ?_)
          refine gx_icmp_eq_t (tgt := 751) hX dL_law_473 (by decide) (fun z => z (hq461.1.symm.trans hq470.1)) ?_
          refine gx_iinc (w := (nI (i + 6))) (lv' := [(3, .int (nI (i + 6))), (0, .ref b), (1, .ref N), (2, .ref (N + 85))]) hX 3 dL_law_751 rfl rfl (nI_add _ _) (by decide) rfl ?_
          refine gx_goto (pc' := 18) hX dL_law_754 (by decide) ?_
          exact gx_sub [1, 2, 3, 0] rfl (ih18 (i + 6) τ461 τ470 (qstatus (r, n, P, q, cn) (xs (i + 1))).2 (by omega) (by omega) hq461.2 hq470.2 (by rw [show 2 * (i + 6) = 2 * i + 12 by omega]; exact qS_status hI _))
        by_cases t33_12 : ((xs i) &&& 31) = 12
        · refine gx_tableIn (tgt := 478) hX dL_law_33 12 t33_12 (by decide) (by decide) rfl (by decide) ?_
          refine gx_aload_n hX 1 dL_law_478 rfl rfl ?_
          refine gx_aload_n hX 0 dL_law_479 rfl rfl ?_
          refine gx_iload_n hX 3 dL_law_480 rfl rfl ?_
          refine gx_iconst (v := 1) hX dL_law_481 rfl (by decide) ?_
          refine gx_iaddN (i := i) (j := 1) hX dL_law_482 rfl rfl rfl ?_
          refine lx_sld (i := (i + 1)) hC hXs hbl hbA rfl (by omega) hL dL_law_483 rfl ?_
          refine lx_call (As := [.int (xs (i + 1))]) (st := []) (σ := σ1) hC1 (up := fun τ => (τ, σ2)) (fun H h => h.1) (fun τ H H1 h h1 hf => ⟨h1, gP_keep lyd2 h.2 hf⟩) (fun q h => lyA hN h) (c_X3_value l (Yc N Z) N σ1 r n P q cn yLC hA1 (2 * i) hBB hI (xs (i + 1))) kX3_value wm_RL_66 rfl yK0 rfl rfl rfl rfl rfl dL_law_484 rfl (lx_ki fun r484 τ484 hq484 => ?_)
          refine gx_aload_n hX 2 dL_law_487 rfl rfl ?_
          refine gx_aload_n hX 0 dL_law_488 rfl rfl ?_
          refine gx_iload_n hX 3 dL_law_489 rfl rfl ?_
          refine gx_iconst (v := 1) hX dL_law_490 rfl (by decide) ?_
          refine gx_iaddN (i := i) (j := 1) hX dL_law_491 rfl rfl rfl ?_
          refine lx_sld (i := (i + 1)) hC hXs hbl hbA rfl (by omega) hL dL_law_492 rfl ?_
          refine lx_call (As := [.int (xs (i + 1))]) (st := [.int r484]) (σ := σ2) hC2 (up := fun τ => (τ484, τ)) (fun H h => h.2) (fun τ H H1 h h1 hf => ⟨gP_keep lyd1 h.1 hf, h1⟩) (fun q h => lxA hN h) (c_X4_value l (Ym (N + 85) Z) (N + 85) σ2 r n P q cn xLM hA2 (2 * i) hBB hI (xs (i + 1))) kX4_value wm_RL_69 rfl xK0 rfl rfl rfl rfl rfl dL_law_493 rfl (lx_ki fun r493 τ493 hq493 => ?_)
          refine gx_icmp_eq_t (tgt := 751) hX dL_law_496 (by decide) (fun z => z (hq484.1.symm.trans hq493.1)) ?_
          refine gx_iinc (w := (nI (i + 6))) (lv' := [(3, .int (nI (i + 6))), (0, .ref b), (1, .ref N), (2, .ref (N + 85))]) hX 3 dL_law_751 rfl rfl (nI_add _ _) (by decide) rfl ?_
          refine gx_goto (pc' := 18) hX dL_law_754 (by decide) ?_
          exact gx_sub [1, 2, 3, 0] rfl (ih18 (i + 6) τ484 τ493 (qvalue (r, n, P, q, cn) (xs (i + 1))).2 (by omega) (by omega) hq484.2 hq493.2 (by rw [show 2 * (i + 6) = 2 * i + 12 by omega]; exact qS_value hI _))
        by_cases t33_13 : ((xs i) &&& 31) = 13
        · refine gx_tableIn (tgt := 501) hX dL_law_33 13 t33_13 (by decide) (by decide) rfl (by decide) ?_
          refine gx_aload_n hX 1 dL_law_501 rfl rfl ?_
          refine gx_aload_n hX 0 dL_law_502 rfl rfl ?_
          refine gx_iload_n hX 3 dL_law_503 rfl rfl ?_
          refine gx_iconst (v := 1) hX dL_law_504 rfl (by decide) ?_
          refine gx_iaddN (i := i) (j := 1) hX dL_law_505 rfl rfl rfl ?_
          refine lx_sld (i := (i + 1)) hC hXs hbl hbA rfl (by omega) hL dL_law_506 rfl ?_
          refine lx_call (As := [.int (xs (i + 1))]) (st := []) (σ := σ1) hC1 (up := fun τ => (τ, σ2)) (fun H h => h.1) (fun τ H H1 h h1 hf => ⟨h1, gP_keep lyd2 h.2 hf⟩) (fun q h => lyA hN h) (c_X3_valueOf l (Yc N Z) N σ1 r n P q cn yLC hA1 (2 * i) hBB hI (xs (i + 1))) kX3_valueOf wm_RL_70 rfl yK0 rfl rfl rfl rfl rfl dL_law_507 rfl (lx_ki fun r507 τ507 hq507 => ?_)
          refine gx_aload_n hX 2 dL_law_510 rfl rfl ?_
          refine gx_aload_n hX 0 dL_law_511 rfl rfl ?_
          refine gx_iload_n hX 3 dL_law_512 rfl rfl ?_
          refine gx_iconst (v := 1) hX dL_law_513 rfl (by decide) ?_
          refine gx_iaddN (i := i) (j := 1) hX dL_law_514 rfl rfl rfl ?_
          refine lx_sld (i := (i + 1)) hC hXs hbl hbA rfl (by omega) hL dL_law_515 rfl ?_
          refine lx_call (As := [.int (xs (i + 1))]) (st := [.int r507]) (σ := σ2) hC2 (up := fun τ => (τ507, τ)) (fun H h => h.2) (fun τ H H1 h h1 hf => ⟨gP_keep lyd1 h.1 hf, h1⟩) (fun q h => lxA hN h) (c_X4_valueOf l (Ym (N + 85) Z) (N + 85) σ2 r n P q cn xLM hA2 (2 * i) hBB hI (xs (i + 1))) kX4_valueOf wm_RL_73 rfl xK0 rfl rfl rfl rfl rfl dL_law_516 rfl (lx_ki fun r516 τ516 hq516 => ?_)
          refine gx_icmp_eq_t (tgt := 751) hX dL_law_519 (by decide) (fun z => z (hq507.1.symm.trans hq516.1)) ?_
          refine gx_iinc (w := (nI (i + 6))) (lv' := [(3, .int (nI (i + 6))), (0, .ref b), (1, .ref N), (2, .ref (N + 85))]) hX 3 dL_law_751 rfl rfl (nI_add _ _) (by decide) rfl ?_
          refine gx_goto (pc' := 18) hX dL_law_754 (by decide) ?_
          exact gx_sub [1, 2, 3, 0] rfl (ih18 (i + 6) τ507 τ516 (qvalueOf (r, n, P, q, cn) (xs (i + 1))).2 (by omega) (by omega) hq507.2 hq516.2 (by rw [show 2 * (i + 6) = 2 * i + 12 by omega]; exact qS_valueOf hI _))
        by_cases t33_14 : ((xs i) &&& 31) = 14
        · refine gx_tableIn (tgt := 524) hX dL_law_33 14 t33_14 (by decide) (by decide) rfl (by decide) ?_
          refine gx_aload_n hX 1 dL_law_524 rfl rfl ?_
          refine gx_aload_n hX 0 dL_law_525 rfl rfl ?_
          refine gx_iload_n hX 3 dL_law_526 rfl rfl ?_
          refine gx_iconst (v := 1) hX dL_law_527 rfl (by decide) ?_
          refine gx_iaddN (i := i) (j := 1) hX dL_law_528 rfl rfl rfl ?_
          refine lx_sld (i := (i + 1)) hC hXs hbl hbA rfl (by omega) hL dL_law_529 rfl ?_
          refine lx_call (As := [.int (xs (i + 1))]) (st := []) (σ := σ1) hC1 (up := fun τ => (τ, σ2)) (fun H h => h.1) (fun τ H H1 h h1 hf => ⟨h1, gP_keep lyd2 h.2 hf⟩) (fun q h => lyA hN h) (c_X3_version l (Yc N Z) N σ1 r n P q cn yLC hA1 (2 * i) hBB hI (xs (i + 1))) kX3_version wm_RL_74 rfl yK0 rfl rfl rfl rfl rfl dL_law_530 rfl (lx_ki fun r530 τ530 hq530 => ?_)
          refine gx_aload_n hX 2 dL_law_533 rfl rfl ?_
          refine gx_aload_n hX 0 dL_law_534 rfl rfl ?_
          refine gx_iload_n hX 3 dL_law_535 rfl rfl ?_
          refine gx_iconst (v := 1) hX dL_law_536 rfl (by decide) ?_
          refine gx_iaddN (i := i) (j := 1) hX dL_law_537 rfl rfl rfl ?_
          refine lx_sld (i := (i + 1)) hC hXs hbl hbA rfl (by omega) hL dL_law_538 rfl ?_
          refine lx_call (As := [.int (xs (i + 1))]) (st := [.int r530]) (σ := σ2) hC2 (up := fun τ => (τ530, τ)) (fun H h => h.2) (fun τ H H1 h h1 hf => ⟨gP_keep lyd1 h.1 hf, h1⟩) (fun q h => lxA hN h) (c_X4_version l (Ym (N + 85) Z) (N + 85) σ2 r n P q cn xLM hA2 (2 * i) hBB hI (xs (i + 1))) kX4_version wm_RL_77 rfl xK0 rfl rfl rfl rfl rfl dL_law_539 rfl (lx_ki fun r539 τ539 hq539 => ?_)
          refine gx_icmp_eq_t (tgt := 751) hX dL_law_542 (by decide) (fun z => z (hq530.1.symm.trans hq539.1)) ?_
          refine gx_iinc (w := (nI (i + 6))) (lv' := [(3, .int (nI (i + 6))), (0, .ref b), (1, .ref N), (2, .ref (N + 85))]) hX 3 dL_law_751 rfl rfl (nI_add _ _) (by decide) rfl ?_
          refine gx_goto (pc' := 18) hX dL_law_754 (by decide) ?_
          exact gx_sub [1, 2, 3, 0] rfl (ih18 (i + 6) τ530 τ539 (qof (r, n, P, q, cn) (xs (i + 1)) 5).2 (by omega) (by omega) hq530.2 hq539.2 (by rw [show 2 * (i + 6) = 2 * i + 12 by omega]; exact qS_of hI _ _))
        by_cases t33_15 : ((xs i) &&& 31) = 15
        · refine gx_tableIn (tgt := 547) hX dL_law_33 15 t33_15 (by decide) (by decide) rfl (by decide) ?_
          refine gx_aload_n hX 1 dL_law_547 rfl rfl ?_
          refine gx_aload_n hX 0 dL_law_548 rfl rfl ?_
          refine gx_iload_n hX 3 dL_law_549 rfl rfl ?_
          refine gx_iconst (v := 1) hX dL_law_550 rfl (by decide) ?_
          refine gx_iaddN (i := i) (j := 1) hX dL_law_551 rfl rfl rfl ?_
          refine lx_sld (i := (i + 1)) hC hXs hbl hbA rfl (by omega) hL dL_law_552 rfl ?_
          refine lx_call (As := [.int (xs (i + 1))]) (st := []) (σ := σ1) hC1 (up := fun τ => (τ, σ2)) (fun H h => h.1) (fun τ H H1 h h1 hf => ⟨h1, gP_keep lyd2 h.2 hf⟩) (fun q h => lyA hN h) (c_X3_runs l (Yc N Z) N σ1 r n P q cn yLC hA1 (2 * i) hBB hI (xs (i + 1))) kX3_runs wm_RL_78 rfl yK0 rfl rfl rfl rfl rfl dL_law_553 rfl (lx_ki fun r553 τ553 hq553 => ?_)
          refine gx_aload_n hX 2 dL_law_556 rfl rfl ?_
          refine gx_aload_n hX 0 dL_law_557 rfl rfl ?_
          refine gx_iload_n hX 3 dL_law_558 rfl rfl ?_
          refine gx_iconst (v := 1) hX dL_law_559 rfl (by decide) ?_
          refine gx_iaddN (i := i) (j := 1) hX dL_law_560 rfl rfl rfl ?_
          refine lx_sld (i := (i + 1)) hC hXs hbl hbA rfl (by omega) hL dL_law_561 rfl ?_
          refine lx_call (As := [.int (xs (i + 1))]) (st := [.int r553]) (σ := σ2) hC2 (up := fun τ => (τ553, τ)) (fun H h => h.2) (fun τ H H1 h h1 hf => ⟨gP_keep lyd1 h.1 hf, h1⟩) (fun q h => lxA hN h) (c_X4_runs l (Ym (N + 85) Z) (N + 85) σ2 r n P q cn xLM hA2 (2 * i) hBB hI (xs (i + 1))) kX4_runs wm_RL_81 rfl xK0 rfl rfl rfl rfl rfl dL_law_562 rfl (lx_ki fun r562 τ562 hq562 => ?_)
          refine gx_icmp_eq_t (tgt := 751) hX dL_law_565 (by decide) (fun z => z (hq553.1.symm.trans hq562.1)) ?_
          refine gx_iinc (w := (nI (i + 6))) (lv' := [(3, .int (nI (i + 6))), (0, .ref b), (1, .ref N), (2, .ref (N + 85))]) hX 3 dL_law_751 rfl rfl (nI_add _ _) (by decide) rfl ?_
          refine gx_goto (pc' := 18) hX dL_law_754 (by decide) ?_
          exact gx_sub [1, 2, 3, 0] rfl (ih18 (i + 6) τ553 τ562 (qof (r, n, P, q, cn) (xs (i + 1)) 8).2 (by omega) (by omega) hq553.2 hq562.2 (by rw [show 2 * (i + 6) = 2 * i + 12 by omega]; exact qS_of hI _ _))
        by_cases t33_16 : ((xs i) &&& 31) = 16
        · refine gx_tableIn (tgt := 570) hX dL_law_33 16 t33_16 (by decide) (by decide) rfl (by decide) ?_
          refine gx_aload_n hX 1 dL_law_570 rfl rfl ?_
          refine lx_call (As := []) (st := []) (σ := σ1) hC1 (up := fun τ => (τ, σ2)) (fun H h => h.1) (fun τ H H1 h h1 hf => ⟨h1, gP_keep lyd2 h.2 hf⟩) (fun q h => lyA hN h) (c_X3_totalRuns l (Yc N Z) N σ1 r n P q cn yLC hA1 (2 * i) hBB hI ) kX3_totalRuns wm_RL_82 rfl yK0 rfl rfl rfl rfl rfl dL_law_571 rfl (lx_ki fun r571 τ571 hq571 => ?_)
          refine gx_aload_n hX 2 dL_law_574 rfl rfl ?_
          refine lx_call (As := []) (st := [.int r571]) (σ := σ2) hC2 (up := fun τ => (τ571, τ)) (fun H h => h.2) (fun τ H H1 h h1 hf => ⟨gP_keep lyd1 h.1 hf, h1⟩) (fun q h => lxA hN h) (c_X4_totalRuns l (Ym (N + 85) Z) (N + 85) σ2 r n P q cn xLM hA2 (2 * i) hBB hI ) kX4_totalRuns wm_RL_85 rfl xK0 rfl rfl rfl rfl rfl dL_law_575 rfl (lx_ki fun r575 τ575 hq575 => ?_)
          refine gx_icmp_eq_t (tgt := 751) hX dL_law_578 (by decide) (fun z => z (hq571.1.symm.trans hq575.1)) ?_
          refine gx_iinc (w := (nI (i + 6))) (lv' := [(3, .int (nI (i + 6))), (0, .ref b), (1, .ref N), (2, .ref (N + 85))]) hX 3 dL_law_751 rfl rfl (nI_add _ _) (by decide) rfl ?_
          refine gx_goto (pc' := 18) hX dL_law_754 (by decide) ?_
          exact gx_sub [1, 2, 3, 0] rfl (ih18 (i + 6) τ571 τ575 (r, n, P, q, cn) (by omega) (by omega) hq571.2 hq575.2 (by rw [show 2 * (i + 6) = 2 * i + 12 by omega]; exact qS_mono hI))
        by_cases t33_17 : ((xs i) &&& 31) = 17
        · refine gx_tableIn (tgt := 583) hX dL_law_33 17 t33_17 (by decide) (by decide) rfl (by decide) ?_
          refine gx_aload_n hX 1 dL_law_583 rfl rfl ?_
          refine gx_aload_n hX 0 dL_law_584 rfl rfl ?_
          refine gx_iload_n hX 3 dL_law_585 rfl rfl ?_
          refine gx_iconst (v := 1) hX dL_law_586 rfl (by decide) ?_
          refine gx_iaddN (i := i) (j := 1) hX dL_law_587 rfl rfl rfl ?_
          refine lx_sld (i := (i + 1)) hC hXs hbl hbA rfl (by omega) hL dL_law_588 rfl ?_
          refine lx_call (As := [.int (xs (i + 1))]) (st := []) (σ := σ1) hC1 (up := fun τ => (τ, σ2)) (fun H h => h.1) (fun τ H H1 h h1 hf => ⟨h1, gP_keep lyd2 h.2 hf⟩) (fun q h => lyA hN h) (c_X3_dependencies l (Yc N Z) N σ1 r n P q cn yLC hA1 (2 * i) hBB hI (xs (i + 1))) kX3_dependencies wm_RL_86 rfl yK0 rfl rfl rfl rfl rfl dL_law_589 rfl (lx_ki fun r589 τ589 hq589 => ?_)
          refine gx_aload_n hX 2 dL_law_592 rfl rfl ?_
          refine gx_aload_n hX 0 dL_law_593 rfl rfl ?_
          refine gx_iload_n hX 3 dL_law_594 rfl rfl ?_
          refine gx_iconst (v := 1) hX dL_law_595 rfl (by decide) ?_
          refine gx_iaddN (i := i) (j := 1) hX dL_law_596 rfl rfl rfl ?_
          refine lx_sld (i := (i + 1)) hC hXs hbl hbA rfl (by omega) hL dL_law_597 rfl ?_
          refine lx_call (As := [.int (xs (i + 1))]) (st := [.int r589]) (σ := σ2) hC2 (up := fun τ => (τ589, τ)) (fun H h => h.2) (fun τ H H1 h h1 hf => ⟨gP_keep lyd1 h.1 hf, h1⟩) (fun q h => lxA hN h) (c_X4_dependencies l (Ym (N + 85) Z) (N + 85) σ2 r n P q cn xLM hA2 (2 * i) hBB hI (xs (i + 1))) kX4_dependencies wm_RL_89 rfl xK0 rfl rfl rfl rfl rfl dL_law_598 rfl (lx_ki fun r598 τ598 hq598 => ?_)
          refine gx_icmp_eq_t (tgt := 751) hX dL_law_601 (by decide) (fun z => z (hq589.1.symm.trans hq598.1)) ?_
          refine gx_iinc (w := (nI (i + 6))) (lv' := [(3, .int (nI (i + 6))), (0, .ref b), (1, .ref N), (2, .ref (N + 85))]) hX 3 dL_law_751 rfl rfl (nI_add _ _) (by decide) rfl ?_
          refine gx_goto (pc' := 18) hX dL_law_754 (by decide) ?_
          exact gx_sub [1, 2, 3, 0] rfl (ih18 (i + 6) τ589 τ598 (qdependencies (r, n, P, q, cn) (xs (i + 1))).2 (by omega) (by omega) hq589.2 hq598.2 (by rw [show 2 * (i + 6) = 2 * i + 12 by omega]; exact qS_dependencies hI _))
        by_cases t33_18 : ((xs i) &&& 31) = 18
        · refine gx_tableIn (tgt := 606) hX dL_law_33 18 t33_18 (by decide) (by decide) rfl (by decide) ?_
          refine gx_aload_n hX 1 dL_law_606 rfl rfl ?_
          refine gx_aload_n hX 0 dL_law_607 rfl rfl ?_
          refine gx_iload_n hX 3 dL_law_608 rfl rfl ?_
          refine gx_iconst (v := 1) hX dL_law_609 rfl (by decide) ?_
          refine gx_iaddN (i := i) (j := 1) hX dL_law_610 rfl rfl rfl ?_
          refine lx_sld (i := (i + 1)) hC hXs hbl hbA rfl (by omega) hL dL_law_611 rfl ?_
          refine lx_call (As := [.int (xs (i + 1))]) (st := []) (σ := σ1) hC1 (up := fun τ => (τ, σ2)) (fun H h => h.1) (fun τ H H1 h h1 hf => ⟨h1, gP_keep lyd2 h.2 hf⟩) (fun q h => lyA hN h) (c_X3_dependents l (Yc N Z) N σ1 r n P q cn yLC hA1 (2 * i) hBB hI (xs (i + 1))) kX3_dependents wm_RL_90 rfl yK0 rfl rfl rfl rfl rfl dL_law_612 rfl (lx_ki fun r612 τ612 hq612 => ?_)
          refine gx_aload_n hX 2 dL_law_615 rfl rfl ?_
          refine gx_aload_n hX 0 dL_law_616 rfl rfl ?_
          refine gx_iload_n hX 3 dL_law_617 rfl rfl ?_
          refine gx_iconst (v := 1) hX dL_law_618 rfl (by decide) ?_
          refine gx_iaddN (i := i) (j := 1) hX dL_law_619 rfl rfl rfl ?_
          refine lx_sld (i := (i + 1)) hC hXs hbl hbA rfl (by omega) hL dL_law_620 rfl ?_
          refine lx_call (As := [.int (xs (i + 1))]) (st := [.int r612]) (σ := σ2) hC2 (up := fun τ => (τ612, τ)) (fun H h => h.2) (fun τ H H1 h h1 hf => ⟨gP_keep lyd1 h.1 hf, h1⟩) (fun q h => lxA hN h) (c_X4_dependents l (Ym (N + 85) Z) (N + 85) σ2 r n P q cn xLM hA2 (2 * i) hBB hI (xs (i + 1))) kX4_dependents wm_RL_93 rfl xK0 rfl rfl rfl rfl rfl dL_law_621 rfl (lx_ki fun r621 τ621 hq621 => ?_)
          refine gx_icmp_eq_t (tgt := 751) hX dL_law_624 (by decide) (fun z => z (hq612.1.symm.trans hq621.1)) ?_
          refine gx_iinc (w := (nI (i + 6))) (lv' := [(3, .int (nI (i + 6))), (0, .ref b), (1, .ref N), (2, .ref (N + 85))]) hX 3 dL_law_751 rfl rfl (nI_add _ _) (by decide) rfl ?_
          refine gx_goto (pc' := 18) hX dL_law_754 (by decide) ?_
          exact gx_sub [1, 2, 3, 0] rfl (ih18 (i + 6) τ612 τ621 (qdependents (r, n, P, q, cn) (xs (i + 1))).2 (by omega) (by omega) hq612.2 hq621.2 (by rw [show 2 * (i + 6) = 2 * i + 12 by omega]; exact qS_dependents hI _))
        by_cases t33_19 : ((xs i) &&& 31) = 19
        · refine gx_tableIn (tgt := 629) hX dL_law_33 19 t33_19 (by decide) (by decide) rfl (by decide) ?_
          refine gx_aload_n hX 1 dL_law_629 rfl rfl ?_
          refine gx_aload_n hX 0 dL_law_630 rfl rfl ?_
          refine gx_iload_n hX 3 dL_law_631 rfl rfl ?_
          refine gx_iconst (v := 1) hX dL_law_632 rfl (by decide) ?_
          refine gx_iaddN (i := i) (j := 1) hX dL_law_633 rfl rfl rfl ?_
          refine lx_sld (i := (i + 1)) hC hXs hbl hbA rfl (by omega) hL dL_law_634 rfl ?_
          refine lx_call (As := [.int (xs (i + 1))]) (st := []) (σ := σ1) hC1 (up := fun τ => (τ, σ2)) (fun H h => h.1) (fun τ H H1 h h1 hf => ⟨h1, gP_keep lyd2 h.2 hf⟩) (fun q h => lyA hN h) (c_X3_definers l (Yc N Z) N σ1 r n P q cn yLC hA1 (2 * i) hBB hI (xs (i + 1))) kX3_definers wm_RL_94 rfl yK0 rfl rfl rfl rfl rfl dL_law_635 rfl (lx_ki fun r635 τ635 hq635 => ?_)
          refine gx_aload_n hX 2 dL_law_638 rfl rfl ?_
          refine gx_aload_n hX 0 dL_law_639 rfl rfl ?_
          refine gx_iload_n hX 3 dL_law_640 rfl rfl ?_
          refine gx_iconst (v := 1) hX dL_law_641 rfl (by decide) ?_
          refine gx_iaddN (i := i) (j := 1) hX dL_law_642 rfl rfl rfl ?_
          refine lx_sld (i := (i + 1)) hC hXs hbl hbA rfl (by omega) hL dL_law_643 rfl ?_
          refine lx_call (As := [.int (xs (i + 1))]) (st := [.int r635]) (σ := σ2) hC2 (up := fun τ => (τ635, τ)) (fun H h => h.2) (fun τ H H1 h h1 hf => ⟨gP_keep lyd1 h.1 hf, h1⟩) (fun q h => lxA hN h) (c_X4_definers l (Ym (N + 85) Z) (N + 85) σ2 r n P q cn xLM hA2 (2 * i) hBB hI (xs (i + 1))) kX4_definers wm_RL_97 rfl xK0 rfl rfl rfl rfl rfl dL_law_644 rfl (lx_ki fun r644 τ644 hq644 => ?_)
          refine gx_icmp_eq_t (tgt := 751) hX dL_law_647 (by decide) (fun z => z (hq635.1.symm.trans hq644.1)) ?_
          refine gx_iinc (w := (nI (i + 6))) (lv' := [(3, .int (nI (i + 6))), (0, .ref b), (1, .ref N), (2, .ref (N + 85))]) hX 3 dL_law_751 rfl rfl (nI_add _ _) (by decide) rfl ?_
          refine gx_goto (pc' := 18) hX dL_law_754 (by decide) ?_
          exact gx_sub [1, 2, 3, 0] rfl (ih18 (i + 6) τ635 τ644 (qdefiners (r, n, P, q, cn) (xs (i + 1))).2 (by omega) (by omega) hq635.2 hq644.2 (by rw [show 2 * (i + 6) = 2 * i + 12 by omega]; exact qS_definers hI _))
        by_cases t33_20 : ((xs i) &&& 31) = 20
        · refine gx_tableIn (tgt := 652) hX dL_law_33 20 t33_20 (by decide) (by decide) rfl (by decide) ?_
          refine gx_aload_n hX 1 dL_law_652 rfl rfl ?_
          refine lx_call (As := []) (st := []) (σ := σ1) hC1 (up := fun τ => (τ, σ2)) (fun H h => h.1) (fun τ H H1 h h1 hf => ⟨h1, gP_keep lyd2 h.2 hf⟩) (fun q h => lyA hN h) (c_X3_runnableCount l (Yc N Z) N σ1 r n P q cn yLC hA1 (2 * i) hBB hI ) kX3_runnableCount wm_RL_98 rfl yK0 rfl rfl rfl rfl rfl dL_law_653 rfl (lx_ki fun r653 τ653 hq653 => ?_)
          refine gx_aload_n hX 2 dL_law_656 rfl rfl ?_
          refine lx_call (As := []) (st := [.int r653]) (σ := σ2) hC2 (up := fun τ => (τ653, τ)) (fun H h => h.2) (fun τ H H1 h h1 hf => ⟨gP_keep lyd1 h.1 hf, h1⟩) (fun q h => lxA hN h) (c_X4_runnableCount l (Ym (N + 85) Z) (N + 85) σ2 r n P q cn xLM hA2 (2 * i) hBB hI ) kX4_runnableCount wm_RL_101 rfl xK0 rfl rfl rfl rfl rfl dL_law_657 rfl (lx_ki fun r657 τ657 hq657 => ?_)
          refine gx_icmp_eq_t (tgt := 751) hX dL_law_660 (by decide) (fun z => z (hq653.1.symm.trans hq657.1)) ?_
          refine gx_iinc (w := (nI (i + 6))) (lv' := [(3, .int (nI (i + 6))), (0, .ref b), (1, .ref N), (2, .ref (N + 85))]) hX 3 dL_law_751 rfl rfl (nI_add _ _) (by decide) rfl ?_
          refine gx_goto (pc' := 18) hX dL_law_754 (by decide) ?_
          exact gx_sub [1, 2, 3, 0] rfl (ih18 (i + 6) τ653 τ657 (r, n, P, q, cn) (by omega) (by omega) hq653.2 hq657.2 (by rw [show 2 * (i + 6) = 2 * i + 12 by omega]; exact qS_mono hI))
        by_cases t33_21 : ((xs i) &&& 31) = 21
        · refine gx_tableIn (tgt := 665) hX dL_law_33 21 t33_21 (by decide) (by decide) rfl (by decide) ?_
          refine gx_aload_n hX 1 dL_law_665 rfl rfl ?_
          refine gx_aload_n hX 0 dL_law_666 rfl rfl ?_
          refine gx_iload_n hX 3 dL_law_667 rfl rfl ?_
          refine gx_iconst (v := 1) hX dL_law_668 rfl (by decide) ?_
          refine gx_iaddN (i := i) (j := 1) hX dL_law_669 rfl rfl rfl ?_
          refine lx_sld (i := (i + 1)) hC hXs hbl hbA rfl (by omega) hL dL_law_670 rfl ?_
          refine lx_call (As := [.int (xs (i + 1))]) (st := []) (σ := σ1) hC1 (up := fun τ => (τ, σ2)) (fun H h => h.1) (fun τ H H1 h h1 hf => ⟨h1, gP_keep lyd2 h.2 hf⟩) (fun q h => lyA hN h) (c_X3_runOrder l (Yc N Z) N σ1 r n P q cn yLC hA1 (2 * i) hBB hI (xs (i + 1))) kX3_runOrder wm_RL_102 rfl yK0 rfl rfl rfl rfl rfl dL_law_671 rfl (lx_ki fun r671 τ671 hq671 => ?_)
          refine gx_aload_n hX 2 dL_law_674 rfl rfl ?_
          refine gx_aload_n hX 0 dL_law_675 rfl rfl ?_
          refine gx_iload_n hX 3 dL_law_676 rfl rfl ?_
          refine gx_iconst (v := 1) hX dL_law_677 rfl (by decide) ?_
          refine gx_iaddN (i := i) (j := 1) hX dL_law_678 rfl rfl rfl ?_
          refine lx_sld (i := (i + 1)) hC hXs hbl hbA rfl (by omega) hL dL_law_679 rfl ?_
          refine lx_call (As := [.int (xs (i + 1))]) (st := [.int r671]) (σ := σ2) hC2 (up := fun τ => (τ671, τ)) (fun H h => h.2) (fun τ H H1 h h1 hf => ⟨gP_keep lyd1 h.1 hf, h1⟩) (fun q h => lxA hN h) (c_X4_runOrder l (Ym (N + 85) Z) (N + 85) σ2 r n P q cn xLM hA2 (2 * i) hBB hI (xs (i + 1))) kX4_runOrder wm_RL_105 rfl xK0 rfl rfl rfl rfl rfl dL_law_680 rfl (lx_ki fun r680 τ680 hq680 => ?_)
          refine gx_icmp_eq_t (tgt := 751) hX dL_law_683 (by decide) (fun z => z (hq671.1.symm.trans hq680.1)) ?_
          refine gx_iinc (w := (nI (i + 6))) (lv' := [(3, .int (nI (i + 6))), (0, .ref b), (1, .ref N), (2, .ref (N + 85))]) hX 3 dL_law_751 rfl rfl (nI_add _ _) (by decide) rfl ?_
          refine gx_goto (pc' := 18) hX dL_law_754 (by decide) ?_
          exact gx_sub [1, 2, 3, 0] rfl (ih18 (i + 6) τ671 τ680 (qrunOrder (r, n, P, q, cn) (xs (i + 1))).2 (by omega) (by omega) hq671.2 hq680.2 (by rw [show 2 * (i + 6) = 2 * i + 12 by omega]; exact qS_runOrder hI _))
        by_cases t33_22 : ((xs i) &&& 31) = 22
        · refine gx_tableIn (tgt := 688) hX dL_law_33 22 t33_22 (by decide) (by decide) rfl (by decide) ?_
          refine gx_aload_n hX 1 dL_law_688 rfl rfl ?_
          refine lx_call (As := []) (st := []) (σ := σ1) hC1 (up := fun τ => (τ, σ2)) (fun H h => h.1) (fun τ H H1 h h1 hf => ⟨h1, gP_keep lyd2 h.2 hf⟩) (fun q h => lyA hN h) (c_X3_staleCount l (Yc N Z) N σ1 r n P q cn yLC hA1 (2 * i) hBB hI ) kX3_staleCount wm_RL_106 rfl yK0 rfl rfl rfl rfl rfl dL_law_689 rfl (lx_ki fun r689 τ689 hq689 => ?_)
          refine gx_aload_n hX 2 dL_law_692 rfl rfl ?_
          refine lx_call (As := []) (st := [.int r689]) (σ := σ2) hC2 (up := fun τ => (τ689, τ)) (fun H h => h.2) (fun τ H H1 h h1 hf => ⟨gP_keep lyd1 h.1 hf, h1⟩) (fun q h => lxA hN h) (c_X4_staleCount l (Ym (N + 85) Z) (N + 85) σ2 r n P q cn xLM hA2 (2 * i) hBB hI ) kX4_staleCount wm_RL_109 rfl xK0 rfl rfl rfl rfl rfl dL_law_693 rfl (lx_ki fun r693 τ693 hq693 => ?_)
          refine gx_icmp_eq_t (tgt := 751) hX dL_law_696 (by decide) (fun z => z (hq689.1.symm.trans hq693.1)) ?_
          refine gx_iinc (w := (nI (i + 6))) (lv' := [(3, .int (nI (i + 6))), (0, .ref b), (1, .ref N), (2, .ref (N + 85))]) hX 3 dL_law_751 rfl rfl (nI_add _ _) (by decide) rfl ?_
          refine gx_goto (pc' := 18) hX dL_law_754 (by decide) ?_
          exact gx_sub [1, 2, 3, 0] rfl (ih18 (i + 6) τ689 τ693 (r, n, P, q, cn) (by omega) (by omega) hq689.2 hq693.2 (by rw [show 2 * (i + 6) = 2 * i + 12 by omega]; exact qS_mono hI))
        by_cases t33_23 : ((xs i) &&& 31) = 23
        · refine gx_tableIn (tgt := 701) hX dL_law_33 23 t33_23 (by decide) (by decide) rfl (by decide) ?_
          refine gx_aload_n hX 1 dL_law_701 rfl rfl ?_
          refine lx_call (As := []) (st := []) (σ := σ1) hC1 (up := fun τ => (τ, σ2)) (fun H h => h.1) (fun τ H H1 h h1 hf => ⟨h1, gP_keep lyd2 h.2 hf⟩) (fun q h => lyA hN h) (c_X3_undo l (Yc N Z) N σ1 r n P q cn yLC hA1 (2 * i) hBB hI ) kX3_undo wm_RL_110 rfl yK0 rfl rfl rfl rfl rfl dL_law_702 rfl (lx_ki fun r702 τ702 hq702 => ?_)
          refine gx_aload_n hX 2 dL_law_705 rfl rfl ?_
          refine lx_call (As := []) (st := [.int r702]) (σ := σ2) hC2 (up := fun τ => (τ702, τ)) (fun H h => h.2) (fun τ H H1 h h1 hf => ⟨gP_keep lyd1 h.1 hf, h1⟩) (fun q h => lxA hN h) (c_X4_undo l (Ym (N + 85) Z) (N + 85) σ2 r n P q cn xLM hA2 (2 * i) hBB hI ) kX4_undo wm_RL_113 rfl xK0 rfl rfl rfl rfl rfl dL_law_706 rfl (lx_ki fun r706 τ706 hq706 => ?_)
          refine gx_icmp_eq_t (tgt := 751) hX dL_law_709 (by decide) (fun z => z (hq702.1.symm.trans hq706.1)) ?_
          refine gx_iinc (w := (nI (i + 6))) (lv' := [(3, .int (nI (i + 6))), (0, .ref b), (1, .ref N), (2, .ref (N + 85))]) hX 3 dL_law_751 rfl rfl (nI_add _ _) (by decide) rfl ?_
          refine gx_goto (pc' := 18) hX dL_law_754 (by decide) ?_
          exact gx_sub [1, 2, 3, 0] rfl (ih18 (i + 6) τ702 τ706 (qundo (r, n, P, q, cn)).2 (by omega) (by omega) hq702.2 hq706.2 (by rw [show 2 * (i + 6) = 2 * i + 12 by omega]; exact qS_undo hI))
        by_cases t33_24 : ((xs i) &&& 31) = 24
        · refine gx_tableIn (tgt := 714) hX dL_law_33 24 t33_24 (by decide) (by decide) rfl (by decide) ?_
          refine gx_aload_n hX 1 dL_law_714 rfl rfl ?_
          refine gx_aload_n hX 0 dL_law_715 rfl rfl ?_
          refine gx_iload_n hX 3 dL_law_716 rfl rfl ?_
          refine gx_iconst (v := 1) hX dL_law_717 rfl (by decide) ?_
          refine gx_iaddN (i := i) (j := 1) hX dL_law_718 rfl rfl rfl ?_
          refine lx_sld (i := (i + 1)) hC hXs hbl hbA rfl (by omega) hL dL_law_719 rfl ?_
          refine lx_call (As := [.int (xs (i + 1))]) (st := []) (σ := σ1) hC1 (up := fun τ => (τ, σ2)) (fun H h => h.1) (fun τ H H1 h h1 hf => ⟨h1, gP_keep lyd2 h.2 hf⟩) (fun q h => lyA hN h) (c_X3_errorCount l (Yc N Z) N σ1 r n P q cn yLC hA1 (2 * i) hBB hI (xs (i + 1))) kX3_errorCount wm_RL_114 rfl yK0 rfl rfl rfl rfl rfl dL_law_720 rfl (lx_ki fun r720 τ720 hq720 => ?_)
          refine gx_aload_n hX 2 dL_law_723 rfl rfl ?_
          refine gx_aload_n hX 0 dL_law_724 rfl rfl ?_
          refine gx_iload_n hX 3 dL_law_725 rfl rfl ?_
          refine gx_iconst (v := 1) hX dL_law_726 rfl (by decide) ?_
          refine gx_iaddN (i := i) (j := 1) hX dL_law_727 rfl rfl rfl ?_
          refine lx_sld (i := (i + 1)) hC hXs hbl hbA rfl (by omega) hL dL_law_728 rfl ?_
          refine lx_call (As := [.int (xs (i + 1))]) (st := [.int r720]) (σ := σ2) hC2 (up := fun τ => (τ720, τ)) (fun H h => h.2) (fun τ H H1 h h1 hf => ⟨gP_keep lyd1 h.1 hf, h1⟩) (fun q h => lxA hN h) (c_X4_errorCount l (Ym (N + 85) Z) (N + 85) σ2 r n P q cn xLM hA2 (2 * i) hBB hI (xs (i + 1))) kX4_errorCount wm_RL_117 rfl xK0 rfl rfl rfl rfl rfl dL_law_729 rfl (lx_ki fun r729 τ729 hq729 => ?_)
          refine gx_icmp_eq_t (tgt := 751) hX dL_law_732 (by decide) (fun z => z (hq720.1.symm.trans hq729.1)) ?_
          refine gx_iinc (w := (nI (i + 6))) (lv' := [(3, .int (nI (i + 6))), (0, .ref b), (1, .ref N), (2, .ref (N + 85))]) hX 3 dL_law_751 rfl rfl (nI_add _ _) (by decide) rfl ?_
          refine gx_goto (pc' := 18) hX dL_law_754 (by decide) ?_
          exact gx_sub [1, 2, 3, 0] rfl (ih18 (i + 6) τ720 τ729 (qerrorCount (r, n, P, q, cn) (xs (i + 1))).2 (by omega) (by omega) hq720.2 hq729.2 (by rw [show 2 * (i + 6) = 2 * i + 12 by omega]; exact qS_errorCount hI _))
        by_cases t33_25 : ((xs i) &&& 31) = 25
        · refine gx_tableIn (tgt := 737) hX dL_law_33 25 t33_25 (by decide) (by decide) rfl (by decide) ?_
          refine gx_aload_n hX 1 dL_law_737 rfl rfl ?_
          refine lx_call (As := []) (st := []) (σ := σ1) hC1 (up := fun τ => (τ, σ2)) (fun H h => h.1) (fun τ H H1 h h1 hf => ⟨h1, gP_keep lyd2 h.2 hf⟩) (fun q h => lyA hN h) (c_X3_digest l (Yc N Z) N σ1 r n P q cn yLC hA1 (2 * i) hBB hI ) kX3_digest wm_RL_118 rfl yK0 rfl rfl rfl rfl rfl dL_law_738 rfl (lx_kj fun r738 τ738 hq738 => ?_)
          refine gx_aload_n hX 2 dL_law_741 rfl rfl ?_
          refine lx_call (As := []) (st := [.long r738]) (σ := σ2) hC2 (up := fun τ => (τ738, τ)) (fun H h => h.2) (fun τ H H1 h h1 hf => ⟨gP_keep lyd1 h.1 hf, h1⟩) (fun q h => lxA hN h) (c_X4_digest l (Ym (N + 85) Z) (N + 85) σ2 r n P q cn xLM hA2 (2 * i) hBB hI ) kX4_digest wm_RL_122 rfl xK0 rfl rfl rfl rfl rfl dL_law_742 rfl (lx_kj fun r742 τ742 hq742 => ?_)
          refine lx_lcmp (r := 0) hC ((lg_cmp_eq _ _).mpr (hq738.1.symm.trans hq742.1)) dL_law_745 rfl ?_
          refine gx_if_eq_t (tgt := 751) hX dL_law_746 (by decide) (by decide) ?_
          refine gx_iinc (w := (nI (i + 6))) (lv' := [(3, .int (nI (i + 6))), (0, .ref b), (1, .ref N), (2, .ref (N + 85))]) hX 3 dL_law_751 rfl rfl (nI_add _ _) (by decide) rfl ?_
          refine gx_goto (pc' := 18) hX dL_law_754 (by decide) ?_
          exact gx_sub [1, 2, 3, 0] rfl (ih18 (i + 6) τ738 τ742 (r, n, P, q, cn) (by omega) (by omega) hq738.2 hq742.2 (by rw [show 2 * (i + 6) = 2 * i + 12 by omega]; exact qS_mono hI))
        have hdd : True := trivial
        refine gx_tableOut (tgt := 751) hX dL_law_33 (qout25 t33_0 t33_1 t33_2 t33_3 t33_4 t33_5 t33_6 t33_7 t33_8 t33_9 t33_10 t33_11 t33_12 t33_13 t33_14 t33_15 t33_16 t33_17 t33_18 t33_19 t33_20 t33_21 t33_22 t33_23 t33_24 t33_25) (by decide) ?_
        refine gx_iinc (w := (nI (i + 6))) (lv' := [(3, .int (nI (i + 6))), (0, .ref b), (1, .ref N), (2, .ref (N + 85))]) hX 3 dL_law_751 rfl rfl (nI_add _ _) (by decide) rfl ?_
        refine gx_goto (pc' := 18) hX dL_law_754 (by decide) ?_
        exact gx_sub [1, 2, 3, 0] rfl (ih18 (i + 6) σ1 σ2 (r, n, P, q, cn) (by omega) (by omega) hA1 hA2 (by rw [show 2 * (i + 6) = 2 * i + 12 by omega]; exact qS_mono hI))
  exact gx_sub [3, 2, 1, 0] rfl (L18 (L + 2) 0 (σc N) σm a0 (by omega) (by omega) yA xA a0_I)
