/-! ===== what holds of every state, call by call ===== -/
theorem qS_cell {a : qA} {B B' : Nat} {x : Int32} {f : Nat → Int32 × qA} (h : qAI a B) (hB : B ≤ B') (hf : ∀ c, c < a.2.1 → qAI (f c).2 B') : qAI (qcell a x f).2 B' := by
  by_cases q : ∃ j, j < a.2.1 ∧ x = nI j
  · obtain ⟨j, hj, rfl⟩ := q
    rw [qcell_some h.1.2.1 hj]
    exact hf j hj
  · rw [qcell_none h.1.2.1 q]
    exact qAI_mono (qAI_fail h) hB
section QS
variable {r : Nat → Int32} {n : Nat} {P : Nat → Nat → Int32} {q : Nat} {cn : Nat → Int32} {B : Nat}
theorem qS_mono (h : qAI (r, n, P, q, cn) B) : qAI (r, n, P, q, cn) (B + 12) := qAI_mono h (by omega)
theorem qS_fail {k : Nat} (h : qAI (r, n, P, q, cn) B) : qAI (qfail (r, n, P, q, cn) k) (B + 12) := qAI_mono (qAI_fail h) (by omega)
theorem qS_addCell (h : qAI (r, n, P, q, cn) B) (hB : B + 12 < 2 ^ 30) (v op x y : Int32) : qAI (qaddCell (r, n, P, q, cn) v op x y).2 (B + 12) := by
  have hI : qRI r n B := h.1
  unfold qaddCell
  split
  · rename_i hd
    split
    · exact qS_fail h
    · rename_i h12
      have hn : n ≤ 12 := hI.2.1
      have h12' : ¬ n = 12 := h12
      have h11 : n < 12 := by omega
      exact qAI_save h (qRI_eag (qRI_add hI h11 hd.1 hd.2.2.1 hd.2.2.2) hB ((qadd1_off (by omega) (by omega)).trans qsv_4))
  · exact qS_fail h
theorem qS_editCell (h : qAI (r, n, P, q, cn) B) (hB : B + 12 < 2 ^ 30) (c v op x y : Int32) : qAI (qeditCell (r, n, P, q, cn) c v op x y).2 (B + 12) := by
  unfold qeditCell
  refine qS_cell h (by omega) (fun c hc => ?_)
  split
  · rename_i hd
    exact qAI_save h (qRI_eag (qRI_def (qRI_sv h.1) hc hd.1 hd.2.2.1 hd.2.2.2) hB ((qdef_off (by omega)).trans qsv_4))
  · exact qS_fail h
theorem qS_deleteCell (h : qAI (r, n, P, q, cn) B) (hB : B + 12 < 2 ^ 30) (c : Int32) : qAI (qdeleteCell (r, n, P, q, cn) c).2 (B + 12) :=
  qS_cell h (by omega) (fun c hc => qAI_save h (qRI_eag (qRI_del (qRI_sv h.1) hc) hB ((qshl_low (by omega)).trans ((qup_off (by omega)).trans qsv_4))))
theorem qS_moveCell (h : qAI (r, n, P, q, cn) B) (hB : B + 12 < 2 ^ 30) (c t : Int32) : qAI (qmoveCell (r, n, P, q, cn) c t).2 (B + 12) :=
  qS_cell h (by omega) (fun c hc => qS_cell h (by omega) (fun t ht => qAI_save h (qRI_eag (qRI_mv (qRI_sv h.1) hc ht) hB ((qmv_low (by omega)).trans qsv_4))))
theorem qS_setEager (h : qAI (r, n, P, q, cn) B) (hB : B + 12 < 2 ^ 30) (e : Int32) : qAI (qsetEager (r, n, P, q, cn) e).2 (B + 12) := by
  unfold qsetEager
  split
  · rename_i hd
    exact qAI_save h (qRI_eag (qRI_set (qRI_sv h.1) (qe01 hd)) hB ((qup_off (by omega)).trans qsv_4))
  · exact qS_fail h
theorem qS_runStale (h : qAI (r, n, P, q, cn) B) (hB : B + 12 < 2 ^ 30) : qAI (qrunStale (r, n, P, q, cn)).2 (B + 12) :=
  qAI_save h (qrt_inv h.1.2.1 hB (qRI_sv h.1) qsv_4 (qcl_all _ h.1.2.1)).1
theorem qS_runCell (h : qAI (r, n, P, q, cn) B) (hB : B + 12 < 2 ^ 30) (c : Int32) : qAI (qrunCell (r, n, P, q, cn) c).2 (B + 12) := by
  refine qS_cell h (by omega) (fun c hc => ?_)
  split
  · refine qAI_save h (qrt_inv h.1.2.1 hB (qRI_sv h.1) qsv_4 ?_).1
    show qcl (qg (qsv r) n) _
    rw [qg_sv]
    exact qcl_set (g := qg r n) h.1.2.1 hc
  · exact qS_fail h
theorem qS_lastRun (h : qAI (r, n, P, q, cn) B) (i : Int32) : qAI (qlastRun (r, n, P, q, cn) i).2 (B + 12) := by
  unfold qlastRun
  split
  · exact qS_fail h
  · split
    · exact qS_mono h
    · exact qS_mono h
theorem qS_of (h : qAI (r, n, P, q, cn) B) (c : Int32) (w : Nat) : qAI (qof (r, n, P, q, cn) c w).2 (B + 12) := qS_cell h (by omega) (fun _ _ => qS_mono h)
theorem qS_status (h : qAI (r, n, P, q, cn) B) (c : Int32) : qAI (qstatus (r, n, P, q, cn) c).2 (B + 12) := qS_cell h (by omega) (fun _ _ => qS_mono h)
theorem qS_value (h : qAI (r, n, P, q, cn) B) (c : Int32) : qAI (qvalue (r, n, P, q, cn) c).2 (B + 12) := qS_cell h (by omega) (fun _ _ => qS_mono h)
theorem qS_dependencies (h : qAI (r, n, P, q, cn) B) (c : Int32) : qAI (qdependencies (r, n, P, q, cn) c).2 (B + 12) := qS_cell h (by omega) (fun _ _ => qS_mono h)
theorem qS_dependents (h : qAI (r, n, P, q, cn) B) (c : Int32) : qAI (qdependents (r, n, P, q, cn) c).2 (B + 12) := qS_cell h (by omega) (fun _ _ => qS_mono h)
theorem qS_valueOf (h : qAI (r, n, P, q, cn) B) (v : Int32) : qAI (qvalueOf (r, n, P, q, cn) v).2 (B + 12) := by
  unfold qvalueOf
  split
  · exact qS_mono h
  · exact qS_fail h
theorem qS_definers (h : qAI (r, n, P, q, cn) B) (v : Int32) : qAI (qdefiners (r, n, P, q, cn) v).2 (B + 12) := by
  unfold qdefiners
  split
  · exact qS_mono h
  · exact qS_fail h
theorem qS_runOrder (h : qAI (r, n, P, q, cn) B) (i : Int32) : qAI (qrunOrder (r, n, P, q, cn) i).2 (B + 12) := by
  unfold qrunOrder
  split
  · exact qS_fail h
  · split
    · exact qS_mono h
    · exact qS_mono h
theorem qS_undo (h : qAI (r, n, P, q, cn) B) : qAI (qundo (r, n, P, q, cn)).2 (B + 12) := by
  unfold qundo
  split
  · exact qS_fail h
  · rename_i h0
    have hb := qback_I h h0
    refine ⟨hb.mono (by omega), Nat.le_trans (Nat.sub_le _ _) h.2.1, fun j hj => ?_⟩
    have hj' : j < q - 1 := hj
    obtain ⟨m, hm⟩ := h.2.2 j (show j < q by omega)
    exact ⟨m, hm.mono (by omega)⟩
theorem qS_errorCount (h : qAI (r, n, P, q, cn) B) (k : Int32) : qAI (qerrorCount (r, n, P, q, cn) k).2 (B + 12) := by
  unfold qerrorCount
  split
  · exact qS_mono h
  · exact qS_fail h
end QS
/-! ===== the law's world: the two sides beside each other ===== -/
def lP (Y1 Y2 : gL) (x : gS × gS) (H : Heap) : Prop := gP Y1 x.1 H ∧ gP Y2 x.2 H
theorem gP_keep {Y Y1 : gL} {σ : gS} {H H1 : Heap} (hd : ∀ q, gK Y q ≠ 0 → gK Y1 q = 0) (h : gP Y σ H) (hk : ∀ q : Nat, q < H.size → ¬ gA Y1 q → H1[q]? = H[q]?) : gP Y σ H1 := by
  intro a e he
  have h1 := h a e he
  have h2 : gK Y a ≠ 0 := fun z => by
    unfold gEnt at he
    rw [z] at he
    cases he
  exact h1.kept (hk a h1.lt (fun z => z (hd a h2)))
section LW
variable {p : Program} {l : Launch} {e : Env} {R : Room} {s : State} {m : MethodId} {args : Array Value} {below : List Frame} {meth : Method} {c : Code} {ck cn : Nat} {Q : State → Prop} {pc pc' : Nat} {lv : List (Nat × Value)} {st st0 : List Value} {cc : ByteArray} {nL : Nat} {Y Y1 Y2 : gL} {own : String} {ret : Option FieldType} {A : Nat → Prop} {X X1 : Type} {HP : X → Heap → Prop} {HP1 : X1 → Heap → Prop} {x : X} {x1 : X1}
theorem lx_world (h : ∀ H, HP x H → HP1 x1 H) (kk : gW p l e R s m args below meth c HP1 A ck cn Q x1 pc lv st) : gW p l e R s m args below meth c HP A ck cn Q x pc lv st := fun H locs ls h1 h2 h3 => kk H locs ls (h H h1) h2 h3
theorem lx_call (hC : gOK p s m args meth c Y cc nL own ret) {σ : gS} {y : MethodName} {cc2 : ByteArray} {nL2 n idx b k ci N : Nat} {ret2 : Option FieldType} {rm : Room} {As : List Value} {Qc : Option Value → gS → Prop} {fs : List Value} {T : u_T} (up : gS → X) (hg : ∀ H, HP x H → gP Y σ H) (hup : ∀ (τ : gS) (H H1 : Heap), HP x H → gP Y τ H1 → (∀ q : Nat, q < H.size → ¬ gA Y q → H1[q]? = H[q]?) → HP (up τ) H1) (hA : ∀ q, gA Y q → A q) (hM : gM l y cc2 nL2 ret2 rm Y (.ref b :: As) σ Qc) (hy : gYV y cc2 nL2 ret2 n) (hlk : Cond.methodLink own idx y ∈ wsL_law) (hR : gRmOK rm R nL2 ck cn = true) (hk : gK Y b = k) (he : gE Y (σ.1 b) (σ.2.1 b) (σ.2.2 b) b k = some (.inr (ci, fs))) (hc : vwCl[ci]? = some (y.cls, T, N)) (hst : st0 = As.reverse ++ .ref b :: st) (hn : As.length = n) (hcat : Nat.ble (st.map fun v => v.category).sum 8 = true) (hdg : decode cc pc = .ok (.invokevirtual idx, 3)) (hp : pc + 3 = pc') (kk : ∀ (v : Option Value) (τ : gS), Qc v τ → gW p l e R s m args below meth c HP A ck cn Q (up τ) pc' lv (v.toList ++ st)) : gW p l e R s m args below meth c HP A ck cn Q x pc lv st0 := by
  subst hp hst
  obtain ⟨hX, hown, hts, hB, -, -⟩ := hC
  obtain ⟨y1, y2, y3, y4, y5⟩ := hy
  obtain ⟨r1, r2, r3, r4, r5, r6⟩ := gRmOK_spec hR
  have hcat' := Nat.le_of_ble_eq_true hcat
  intro H locs ls h1 h2 h3
  have cw : CallW R s args own y.cls idx y cc2 nL2 ret2 (Cond.code y cc2 nL2 ret2 :: wsL_law) rm 0 0 n := ⟨callB_of n hts (wsL_code y1) rfl r3 r4 (hts _ y4) (hts _ hlk) y5 ⟨r1, r2⟩, hts _ y2, hts _ y3⟩
  refine gx_run (mc := 0) (ms := 0) (va_runV (As := As) (rest := st) (b := b) ⟨hX.1, hX.2.1, hX.2.2, hown, hts⟩ hM cw ⟨gM_blind, va_recv hB.1 (gP_one (hg H h1) hk he) hc (q0 := 0) rfl, fun U hU hW => ⟨rfl, by rw [hU]; exact hg H h1, gB_moved hW hB⟩⟩ rfl hn (by rw [← hX.2.2]; exact h3.1) rfl (lv_room hcat') hdg ⟨r5, r6⟩) hA h2 (fun v τ H1 locs1 hq hP hS hz hf => kk v τ hq H1 locs1 ls (hup τ H H1 h1 hP hf) hS h3)
theorem lx_ki {post : Int32 → gS → Prop} {up : gS → X} (kk : ∀ (r : Int32) (τ : gS), post r τ → gW p l e R s m args below meth c HP A ck cn Q (up τ) pc lv (.int r :: st)) : ∀ (v : Option Value) (τ : gS), gI post v τ → gW p l e R s m args below meth c HP A ck cn Q (up τ) pc lv (v.toList ++ st) := by
  rintro v τ ⟨r, rfl, h⟩
  exact kk r τ h
theorem lx_kj {post : Int64 → gS → Prop} {up : gS → X} (kk : ∀ (r : Int64) (τ : gS), post r τ → gW p l e R s m args below meth c HP A ck cn Q (up τ) pc lv (.long r :: st)) : ∀ (v : Option Value) (τ : gS), gJ post v τ → gW p l e R s m args below meth c HP A ck cn Q (up τ) pc lv (v.toList ++ st) := by
  rintro v τ ⟨r, rfl, h⟩
  exact kk r τ h
theorem lx_slen (hC : gOK p s m args meth c Y cc nL own ret) {b L : Nat} {xs : Nat → Int32} (hX : va_X b L xs s s.heap) (hbl : b < s.heap.size) (hbA : ¬ A b) (hdg : decode cc pc = .ok (.arraylength, 1)) (hp : pc + 1 = pc') (kk : gW p l e R s m args below meth c HP A ck cn Q x pc' lv (.int (nI L) :: st)) : gW p l e R s m args below meth c HP A ck cn Q x pc lv (.ref b :: st) := by
  subst hp
  exact fun H locs ls h1 h2 h3 => va_slen hC.1.1 hC.1.2.1 hX hbl hbA h2 hdg (kk H locs ls h1 h2 h3)
theorem lx_sld (hC : gOK p s m args meth c Y cc nL own ret) {b L i : Nat} {xs : Nat → Int32} {j : Int32} (hX : va_X b L xs s s.heap) (hbl : b < s.heap.size) (hbA : ¬ A b) (hj : j = nI i) (hi : i < L) (hL : L ≤ 3072) (hdg : decode cc pc = .ok (.iaload, 1)) (hp : pc + 1 = pc') (kk : gW p l e R s m args below meth c HP A ck cn Q x pc' lv (.int (xs i) :: st)) : gW p l e R s m args below meth c HP A ck cn Q x pc lv (.int j :: .ref b :: st) := by
  subst hp hj
  intro H locs ls h1 h2 h3
  have h := kk H locs ls h1 h2 h3
  rw [← nI_clamp (n := i) (by omega)] at h
  exact va_sld hC.1.1 hC.1.2.1 hX hbl hbA h2 (vp_in_nI hi (by omega)) hdg h
theorem lx_lcmp {a b : Int64} {r : Int32} (hC : gOK p s m args meth c Y cc nL own ret) (hr : lg_cmp a b = r) (hdg : decode cc pc = .ok (.lcmp, 1)) (hp : pc + 1 = pc') (kk : gW p l e R s m args below meth c HP A ck cn Q x pc' lv (.int r :: st)) : gW p l e R s m args below meth c HP A ck cn Q x pc lv (.long b :: .long a :: st) := by
  subst hp hr
  exact fun H locs ls h1 h2 h3 => W.lcmp hC.1.1 hC.1.2.1 hdg (kk H locs ls h1 h2 h3)
end LW
theorem lx_ret {p : Program} {l : Launch} {e : Env} {s : State} {m : MethodId} {below : List Frame} {meth : Method} {c : Code} {b ck cn : Nat} {X : Type} {HP : X → Heap → Prop} {x : X} {lv : List (Nat × Value)} (hx : p.tables.exec = Jvm.exec) (hb : c.code = code) (hr : meth.sig.returnType = ret) (hlocks : meth.locks = false) {pc : Nat} (hdg : decode code pc = .ok (.ireturn, 1)) (h1 : ck ≤ 600000) (h2 : cn ≤ 7302250) : gW p l e room_1 s m #[Value.ref b] below meth c HP (fun q => s.heap.size ≤ q) ck cn (lw_Z below #[Value.ref b] s) x pc lv [.int 1] := by
  intro H locs ls g1 g2 g3
  exact va_forget (fun q hq => g2.2.2 q hq) (W.widen h1 h2 (lw_ret hx hb hr hlocks hdg))
theorem ltop {L i : Nat} (hL : L ≤ 3072) (hi : i ≤ 3072) (h : ¬ nI L - 6 < nI i) : i + 6 ≤ L := by
  rw [i32lt, Int32.toInt_sub, nI_toInt (by omega), nI_toInt (by omega), show (6 : Int32).toInt = 6 by decide] at h
  have e : ((L : Int) - 6).bmod (2 ^ 32) = (L : Int) - 6 := by
    apply Int.bmod_eq_of_le <;> omega
  rw [e] at h
  omega
theorem qout25 {x : Int32} (h0 : ¬ x = 0) (h1 : ¬ x = 1) (h2 : ¬ x = 2) (h3 : ¬ x = 3) (h4 : ¬ x = 4) (h5 : ¬ x = 5) (h6 : ¬ x = 6) (h7 : ¬ x = 7) (h8 : ¬ x = 8) (h9 : ¬ x = 9) (h10 : ¬ x = 10) (h11 : ¬ x = 11) (h12 : ¬ x = 12) (h13 : ¬ x = 13) (h14 : ¬ x = 14) (h15 : ¬ x = 15) (h16 : ¬ x = 16) (h17 : ¬ x = 17) (h18 : ¬ x = 18) (h19 : ¬ x = 19) (h20 : ¬ x = 20) (h21 : ¬ x = 21) (h22 : ¬ x = 22) (h23 : ¬ x = 23) (h24 : ¬ x = 24) (h25 : ¬ x = 25) : x.toInt < 0 ∨ 25 < x.toInt := by
  have e0 : ¬ x.toInt = 0 := lv_neT h0 (by decide)
  have e1 : ¬ x.toInt = 1 := lv_neT h1 (by decide)
  have e2 : ¬ x.toInt = 2 := lv_neT h2 (by decide)
  have e3 : ¬ x.toInt = 3 := lv_neT h3 (by decide)
  have e4 : ¬ x.toInt = 4 := lv_neT h4 (by decide)
  have e5 : ¬ x.toInt = 5 := lv_neT h5 (by decide)
  have e6 : ¬ x.toInt = 6 := lv_neT h6 (by decide)
  have e7 : ¬ x.toInt = 7 := lv_neT h7 (by decide)
  have e8 : ¬ x.toInt = 8 := lv_neT h8 (by decide)
  have e9 : ¬ x.toInt = 9 := lv_neT h9 (by decide)
  have e10 : ¬ x.toInt = 10 := lv_neT h10 (by decide)
  have e11 : ¬ x.toInt = 11 := lv_neT h11 (by decide)
  have e12 : ¬ x.toInt = 12 := lv_neT h12 (by decide)
  have e13 : ¬ x.toInt = 13 := lv_neT h13 (by decide)
  have e14 : ¬ x.toInt = 14 := lv_neT h14 (by decide)
  have e15 : ¬ x.toInt = 15 := lv_neT h15 (by decide)
  have e16 : ¬ x.toInt = 16 := lv_neT h16 (by decide)
  have e17 : ¬ x.toInt = 17 := lv_neT h17 (by decide)
  have e18 : ¬ x.toInt = 18 := lv_neT h18 (by decide)
  have e19 : ¬ x.toInt = 19 := lv_neT h19 (by decide)
  have e20 : ¬ x.toInt = 20 := lv_neT h20 (by decide)
  have e21 : ¬ x.toInt = 21 := lv_neT h21 (by decide)
  have e22 : ¬ x.toInt = 22 := lv_neT h22 (by decide)
  have e23 : ¬ x.toInt = 23 := lv_neT h23 (by decide)
  have e24 : ¬ x.toInt = 24 := lv_neT h24 (by decide)
  have e25 : ¬ x.toInt = 25 := lv_neT h25 (by decide)
  omega
section LY
variable {N : Nat} {Z : va_G × ClassId × ClassId × ClassId × ClassId} {q : Nat}
theorem lyK (h : gK (Yc N Z) q ≠ 0) : N ≤ q ∧ q < N + 85 := by
  obtain ⟨d, hd, rfl, -⟩ := yat rfl h
  omega
theorem lxK (h : gK (Ym N Z) q ≠ 0) : N ≤ q := by
  rcases Nat.lt_or_ge q N with z | z
  · exact absurd (if_pos z) h
  · exact z
theorem xK0 : gK (Ym N Z) N = 15 := xK 0
theorem lyA {s : State} (hN : s.heap.size = N) (h : gA (Yc N Z) q) : s.heap.size ≤ q := by
  have := (lyK h).1
  omega
theorem lxA {s : State} (hN : s.heap.size = N) (h : gA (Ym (N + 85) Z) q) : s.heap.size ≤ q := by
  have := lxK h
  omega
theorem lyd1 : ∀ q, gK (Yc N Z) q ≠ 0 → gK (Ym (N + 85) Z) q = 0 := fun q h => by
  have := lyK h
  exact if_pos (by omega)
theorem lyd2 : ∀ q, gK (Ym (N + 85) Z) q ≠ 0 → gK (Yc N Z) q = 0 := fun q h => by
  have := lxK h
  by_cases z : gK (Yc N Z) q = 0
  · exact z
  · have := lyK z
    omega
end LY
