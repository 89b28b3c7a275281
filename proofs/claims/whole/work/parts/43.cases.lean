theorem gl_out {i L : Nat} (h : L < i + 6) (hi : i ≤ L + 6) (hL : L ≤ 3072) : Int32.ofNat L - 6 < nI i := by
  rw [Int32.lt_iff_toInt_lt, nI_toInt (by omega)]
  have h1 : (Int32.ofNat L - 6).toInt = (L : Int) - 6 := pk_sub_toInt (a := L) (b := 6) (by omega) (by omega)
  rw [h1]
  omega
theorem gl_room {i L : Nat} (h : ¬ Int32.ofNat L - 6 < nI i) (hi : i ≤ L + 6) (hL : L ≤ 3072) : i + 6 ≤ L := by
  rcases Nat.lt_or_ge L (i + 6) with h1 | h1
  · exact absurd (gl_out h1 hi hL) h
  · exact h1
/-- what the law asks of an invariant of the two worlds: at each call both answer alike, and it holds behind it -/
def law_ok (I : Nat → ab_W → ab_W → Prop) : Prop := (∀ n wc wm, I n wc wm → wc.length = 65 ∧ wm.length = 13 ∧ I (n + 1) wc wm) ∧
  (∀ n wc wm, n < 512 → I n wc wm → ∀ (a1 : Int32) (a2 : Int32), ∃ r wc1 wm1, sX9_paper 0 a1 a2 wc = some (r, wc1) ∧ sX10_paper 0 a1 a2 wm = some (r, wm1) ∧ I (n + 1) wc1 wm1) ∧
  (∀ n wc wm, n < 512 → I n wc wm → ∀ (a1 : Int32) (a2 : Int32), ∃ r wc1 wm1, sX9_ofPaper 0 a1 a2 wc = some (r, wc1) ∧ sX10_ofPaper 0 a1 a2 wm = some (r, wm1) ∧ I (n + 1) wc1 wm1) ∧
  (∀ n wc wm, n < 512 → I n wc wm → ∀ (a1 : Int32) (a2 : Int32) (a3 : Int32), ∃ r wc1 wm1, sX9_change 0 a1 a2 a3 wc = some (r, wc1) ∧ sX10_change 0 a1 a2 a3 wm = some (r, wm1) ∧ I (n + 1) wc1 wm1) ∧
  (∀ n wc wm, n < 512 → I n wc wm → ∀ (a1 : Int32) (a2 : Int32), ∃ r wc1 wm1, sX9_fold 0 a1 a2 wc = some (r, wc1) ∧ sX10_fold 0 a1 a2 wm = some (r, wm1) ∧ I (n + 1) wc1 wm1) ∧
  (∀ n wc wm, n < 512 → I n wc wm → ∀ (a1 : Int32), ∃ r wc1 wm1, sX9_release 0 a1 wc = some (r, wc1) ∧ sX10_release 0 a1 wm = some (r, wm1) ∧ I (n + 1) wc1 wm1) ∧
  (∀ n wc wm, n < 512 → I n wc wm → ∀ (a1 : Int32), ∃ r wc1 wm1, sX9_wind 0 a1 wc = some (r, wc1) ∧ sX10_wind 0 a1 wm = some (r, wm1) ∧ I (n + 1) wc1 wm1) ∧
  (∀ n wc wm, n < 512 → I n wc wm → ∀ (a1 : Int32) (a2 : Int32), ∃ r wc1 wm1, sX9_become 0 a1 a2 wc = some (r, wc1) ∧ sX10_become 0 a1 a2 wm = some (r, wm1) ∧ I (n + 1) wc1 wm1) ∧
  (∀ n wc wm, n < 512 → I n wc wm → ∀ (a1 : Int32) (a2 : Int32), ∃ r wc1 wm1, sX9_as 0 a1 a2 wc = some (r, wc1) ∧ sX10_as 0 a1 a2 wm = some (r, wm1) ∧ I (n + 1) wc1 wm1) ∧
  (∀ n wc wm, n < 512 → I n wc wm → ∀ (a1 : Int64) (a2 : Int32), ∃ r wc1 wm1, sX9_feed 0 a1 a2 wc = some (r, wc1) ∧ sX10_feed 0 a1 a2 wm = some (r, wm1) ∧ I (n + 1) wc1 wm1) ∧
  (∀ n wc wm, n < 512 → I n wc wm → ∀ (a1 : Int32), ∃ r wc1 wm1, sX9_text 0 a1 wc = some (r, wc1) ∧ sX10_text 0 a1 wm = some (r, wm1) ∧ I (n + 1) wc1 wm1) ∧
  (∀ n wc wm, n < 512 → I n wc wm → ∀ (a1 : Int32) (a2 : Int32) (a3 : Int32) (a4 : Int32), ∃ r wc1 wm1, sX9_law 0 a1 a2 a3 a4 wc = some (r, wc1) ∧ sX10_law 0 a1 a2 a3 a4 wm = some (r, wm1) ∧ I (n + 1) wc1 wm1) ∧
  (∀ n wc wm, n < 512 → I n wc wm → ∀ (a1 : Int32), ∃ r wc1 wm1, sX9_days 0 a1 wc = some (r, wc1) ∧ sX10_days 0 a1 wm = some (r, wm1) ∧ I (n + 1) wc1 wm1) ∧
  (∀ n wc wm, n < 512 → I n wc wm → ∀ (a1 : Int32), ∃ r wc1 wm1, sX9_loose 0 a1 wc = some (r, wc1) ∧ sX10_loose 0 a1 wm = some (r, wm1) ∧ I (n + 1) wc1 wm1) ∧
  (∀ n wc wm, n < 512 → I n wc wm → ∀ (a1 : Int32) (a2 : Int32), ∃ r wc1 wm1, sX9_shape 0 a1 a2 wc = some (r, wc1) ∧ sX10_shape 0 a1 a2 wm = some (r, wm1) ∧ I (n + 1) wc1 wm1) ∧
  (∀ n wc wm, n < 512 → I n wc wm → ∀ (a1 : Int32) (a2 : Int32), ∃ r wc1 wm1, sX9_least 0 a1 a2 wc = some (r, wc1) ∧ sX10_least 0 a1 a2 wm = some (r, wm1) ∧ I (n + 1) wc1 wm1) ∧
  (∀ n wc wm, n < 512 → I n wc wm → ∀ (a1 : Int32) (a2 : Int32) (a3 : Int32), ∃ r wc1 wm1, sX9_shapes 0 a1 a2 a3 wc = some (r, wc1) ∧ sX10_shapes 0 a1 a2 a3 wm = some (r, wm1) ∧ I (n + 1) wc1 wm1) ∧
  (∀ n wc wm, n < 512 → I n wc wm → ∀ (a1 : Int32) (a2 : Int32), ∃ r wc1 wm1, sX9_way 0 a1 a2 wc = some (r, wc1) ∧ sX10_way 0 a1 a2 wm = some (r, wm1) ∧ I (n + 1) wc1 wm1) ∧
  (∀ n wc wm, n < 512 → I n wc wm → ∀ (a1 : Int32) (a2 : Int32), ∃ r wc1 wm1, sX9_open 0 a1 a2 wc = some (r, wc1) ∧ sX10_open 0 a1 a2 wm = some (r, wm1) ∧ I (n + 1) wc1 wm1) ∧
  (∀ n wc wm, n < 512 → I n wc wm → ∀ (a1 : Int32), ∃ r wc1 wm1, sX9_alike 0 a1 wc = some (r, wc1) ∧ sX10_alike 0 a1 wm = some (r, wm1) ∧ I (n + 1) wc1 wm1) ∧
  (∀ n wc wm, n < 512 → I n wc wm → ∀ (a1 : Int32) (a2 : Int32) (a3 : Int32), ∃ r wc1 wm1, sX9_then 0 a1 a2 a3 wc = some (r, wc1) ∧ sX10_then 0 a1 a2 a3 wm = some (r, wm1) ∧ I (n + 1) wc1 wm1) ∧
  (∀ n wc wm, n < 512 → I n wc wm → ∀ (a1 : Int32), ∃ r wc1 wm1, sX9_first 0 a1 wc = some (r, wc1) ∧ sX10_first 0 a1 wm = some (r, wm1) ∧ I (n + 1) wc1 wm1) ∧
  (∀ n wc wm, n < 512 → I n wc wm → ∀ (a1 : Int32) (a2 : Int32) (a3 : Int32), ∃ r wc1 wm1, sX9_best 0 a1 a2 a3 wc = some (r, wc1) ∧ sX10_best 0 a1 a2 a3 wm = some (r, wm1) ∧ I (n + 1) wc1 wm1) ∧
  (∀ n wc wm, n < 512 → I n wc wm → ∀ (a1 : Int32) (a2 : Int32), ∃ r wc1 wm1, sX9_fits 0 a1 a2 wc = some (r, wc1) ∧ sX10_fits 0 a1 a2 wm = some (r, wm1) ∧ I (n + 1) wc1 wm1) ∧
  (∀ n wc wm, n < 512 → I n wc wm → ∀ (a1 : Int32), ∃ r wc1 wm1, sX9_owed 0 a1 wc = some (r, wc1) ∧ sX10_owed 0 a1 wm = some (r, wm1) ∧ I (n + 1) wc1 wm1) ∧
  (∀ n wc wm, n < 512 → I n wc wm → ∀ (a1 : Int32), ∃ r wc1 wm1, sX9_debtor 0 a1 wc = some (r, wc1) ∧ sX10_debtor 0 a1 wm = some (r, wm1) ∧ I (n + 1) wc1 wm1) ∧
  (∀ n wc wm, n < 512 → I n wc wm → ∀ (a1 : Int32) (a2 : Int32), ∃ r wc1 wm1, sX9_odds 0 a1 a2 wc = some (r, wc1) ∧ sX10_odds 0 a1 a2 wm = some (r, wm1) ∧ I (n + 1) wc1 wm1) ∧
  (∀ n wc wm, n < 512 → I n wc wm → ∀ (a1 : Int32), ∃ r wc1 wm1, sX9_seed 0 a1 wc = some (r, wc1) ∧ sX10_seed 0 a1 wm = some (r, wm1) ∧ I (n + 1) wc1 wm1) ∧
  (∀ n wc wm, n < 512 → I n wc wm → ∀ (a1 : Int32) (a2 : Int32) (a3 : Int32), ∃ r wc1 wm1, sX9_voice 0 a1 a2 a3 wc = some (r, wc1) ∧ sX10_voice 0 a1 a2 a3 wm = some (r, wm1) ∧ I (n + 1) wc1 wm1) ∧
  (∀ n wc wm, n < 512 → I n wc wm → ∀ (a1 : Int32), ∃ r wc1 wm1, sX9_trace 0 a1 wc = some (r, wc1) ∧ sX10_trace 0 a1 wm = some (r, wm1) ∧ I (n + 1) wc1 wm1) ∧
  (∀ n wc wm, n < 512 → I n wc wm → ∀ (a1 : Int32) (a2 : Int32) (a3 : Int32), ∃ r wc1 wm1, sX9_sheet 0 a1 a2 a3 wc = some (r, wc1) ∧ sX10_sheet 0 a1 a2 a3 wm = some (r, wm1) ∧ I (n + 1) wc1 wm1) ∧
  (∀ n wc wm, n < 512 → I n wc wm → ∀ (a1 : Int32) (a2 : Int32) (a3 : Int32), ∃ r wc1 wm1, sX9_put 0 a1 a2 a3 wc = some (r, wc1) ∧ sX10_put 0 a1 a2 a3 wm = some (r, wm1) ∧ I (n + 1) wc1 wm1) ∧
  (∀ n wc wm, n < 512 → I n wc wm → ∀ (a1 : Int32) (a2 : Int32) (a3 : Int32) (a4 : Int32) (a5 : Int32), ∃ r wc1 wm1, sX9_move 0 a1 a2 a3 a4 a5 wc = some (r, wc1) ∧ sX10_move 0 a1 a2 a3 a4 a5 wm = some (r, wm1) ∧ I (n + 1) wc1 wm1) ∧
  (∀ n wc wm, n < 512 → I n wc wm → ∀ (a1 : Int32), ∃ r wc1 wm1, sX9_debts 0 a1 wc = some (r, wc1) ∧ sX10_debts 0 a1 wm = some (r, wm1) ∧ I (n + 1) wc1 wm1) ∧
  (∀ n wc wm, n < 512 → I n wc wm → ∀ (a1 : Int32), ∃ r wc1 wm1, sX9_judge 0 a1 wc = some (r, wc1) ∧ sX10_judge 0 a1 wm = some (r, wm1) ∧ I (n + 1) wc1 wm1) ∧
  (∀ n wc wm, n < 512 → I n wc wm → ∃ r wc1 wm1, sX9_image 0  wc = some (r, wc1) ∧ sX10_image 0  wm = some (r, wm1) ∧ I (n + 1) wc1 wm1) ∧
  (∀ n wc wm, n < 512 → I n wc wm → ∃ r wc1 wm1, sX9_restore 0  wc = some (r, wc1) ∧ sX10_restore 0  wm = some (r, wm1) ∧ I (n + 1) wc1 wm1) ∧
  (∀ n wc wm, n < 512 → I n wc wm → ∀ (a1 : Int32), ∃ r wc1 wm1, sX9_tell 0 a1 wc = some (r, wc1) ∧ sX10_tell 0 a1 wm = some (r, wm1) ∧ I (n + 1) wc1 wm1) ∧
  (∀ n wc wm, n < 512 → I n wc wm → ∃ r wc1 wm1, sX9_check 0  wc = some (r, wc1) ∧ sX10_check 0  wm = some (r, wm1) ∧ I (n + 1) wc1 wm1) ∧
  (∀ n wc wm, n < 512 → I n wc wm → ∀ (a1 : Int32), ∃ r wc1 wm1, sX9_count 0 a1 wc = some (r, wc1) ∧ sX10_count 0 a1 wm = some (r, wm1) ∧ I (n + 1) wc1 wm1) ∧
  (∀ n wc wm, n < 512 → I n wc wm → ∀ (a1 : Int32), ∃ r wc1 wm1, sX9_told 0 a1 wc = some (r, wc1) ∧ sX10_told 0 a1 wm = some (r, wm1) ∧ I (n + 1) wc1 wm1)
set_option maxHeartbeats 4000000 in
set_option maxRecDepth 100000 in
theorem lc_0 {p : Program} {l : Launch} {e : Env} {s : State} {m : MethodId} {below : List Frame} {meth : Method} {c : Code} {b L : Nat} {xs : Nat → Int32} {D : va_G} {tc : Nat → ClassId} {ta tb : Nat} {Q : State → Prop} (C : gl_C p s m meth c b L xs D tc ta tb) {wc wm wc1 wm1 : ab_W} {r : Int32} {i : Nat} (hi : i + 6 ≤ L) (e1 : sX9_paper 0 (xs (i + 1)) (xs (i + 2)) wc = some (r, wc1)) (e2 : sX10_paper 0 (xs (i + 1)) (xs (i + 2)) wm = some (r, wm1)) (h1 : wc1.length = 65) (h2 : wm1.length = 13) (k : gl_G p l e s m below meth c b D tc ta tb Q 1458 [some (.ref b), some (.ref s.heap.size), some (.ref (s.heap.size + 65)), some (.int (nI i))] [] wc1 wm1) : gl_G p l e s m below meth c b D tc ta tb Q 208 [some (.ref b), some (.ref s.heap.size), some (.ref (s.heap.size + 65)), some (.int (nI i))] [] wc wm := by
  refine gl_aload_n C (pc' := 209) (i := 1) rfl dL_law_208 rfl rfl ?_
  refine gl_arg C (pc' := 214) (k0 := 1) dL_law_209 dL_law_210 dL_law_211 dL_law_212 dL_law_213 rfl (by decide) hi (by decide) rfl rfl ?_
  refine gl_arg C (pc' := 219) (k0 := 2) dL_law_214 dL_law_215 dL_law_216 dL_law_217 dL_law_218 rfl (by decide) hi (by decide) rfl rfl ?_
  refine gl_callx C (pc' := 222) rfl dL_law_219 wm_L_13 uX9_paper (kX9_paper _ _ _ _ _ _ e1) h1 (by decide) (fun _ => rfl) rfl rfl (Nat.le_of_ble_eq_true rfl) ?_
  refine gl_aload_n C (pc' := 223) (i := 2) rfl dL_law_222 rfl rfl ?_
  refine gl_arg C (pc' := 228) (k0 := 1) dL_law_223 dL_law_224 dL_law_225 dL_law_226 dL_law_227 rfl (by decide) hi (by decide) rfl rfl ?_
  refine gl_arg C (pc' := 233) (k0 := 2) dL_law_228 dL_law_229 dL_law_230 dL_law_231 dL_law_232 rfl (by decide) hi (by decide) rfl rfl ?_
  refine gl_callm C (pc' := 236) rfl dL_law_233 wm_L_17 uX10_paper (kX10_paper _ _ _ _ _ _ e2) h2 (by decide) (fun _ => rfl) rfl rfl (Nat.le_of_ble_eq_true rfl) ?_
  refine gl_eqT C (tgt := 1458) dL_law_236 rfl ?_
  exact k
set_option maxHeartbeats 4000000 in
set_option maxRecDepth 100000 in
theorem lc_1 {p : Program} {l : Launch} {e : Env} {s : State} {m : MethodId} {below : List Frame} {meth : Method} {c : Code} {b L : Nat} {xs : Nat → Int32} {D : va_G} {tc : Nat → ClassId} {ta tb : Nat} {Q : State → Prop} (C : gl_C p s m meth c b L xs D tc ta tb) {wc wm wc1 wm1 : ab_W} {r : Int32} {i : Nat} (hi : i + 6 ≤ L) (e1 : sX9_ofPaper 0 (xs (i + 1)) (xs (i + 2)) wc = some (r, wc1)) (e2 : sX10_ofPaper 0 (xs (i + 1)) (xs (i + 2)) wm = some (r, wm1)) (h1 : wc1.length = 65) (h2 : wm1.length = 13) (k : gl_G p l e s m below meth c b D tc ta tb Q 1458 [some (.ref b), some (.ref s.heap.size), some (.ref (s.heap.size + 65)), some (.int (nI i))] [] wc1 wm1) : gl_G p l e s m below meth c b D tc ta tb Q 241 [some (.ref b), some (.ref s.heap.size), some (.ref (s.heap.size + 65)), some (.int (nI i))] [] wc wm := by
  refine gl_aload_n C (pc' := 242) (i := 1) rfl dL_law_241 rfl rfl ?_
  refine gl_arg C (pc' := 247) (k0 := 1) dL_law_242 dL_law_243 dL_law_244 dL_law_245 dL_law_246 rfl (by decide) hi (by decide) rfl rfl ?_
  refine gl_arg C (pc' := 252) (k0 := 2) dL_law_247 dL_law_248 dL_law_249 dL_law_250 dL_law_251 rfl (by decide) hi (by decide) rfl rfl ?_
  refine gl_callx C (pc' := 255) rfl dL_law_252 wm_L_18 uX9_ofPaper (kX9_ofPaper _ _ _ _ _ _ e1) h1 (by decide) (fun _ => rfl) rfl rfl (Nat.le_of_ble_eq_true rfl) ?_
  refine gl_aload_n C (pc' := 256) (i := 2) rfl dL_law_255 rfl rfl ?_
  refine gl_arg C (pc' := 261) (k0 := 1) dL_law_256 dL_law_257 dL_law_258 dL_law_259 dL_law_260 rfl (by decide) hi (by decide) rfl rfl ?_
  refine gl_arg C (pc' := 266) (k0 := 2) dL_law_261 dL_law_262 dL_law_263 dL_law_264 dL_law_265 rfl (by decide) hi (by decide) rfl rfl ?_
  refine gl_callm C (pc' := 269) rfl dL_law_266 wm_L_21 uX10_ofPaper (kX10_ofPaper _ _ _ _ _ _ e2) h2 (by decide) (fun _ => rfl) rfl rfl (Nat.le_of_ble_eq_true rfl) ?_
  refine gl_eqT C (tgt := 1458) dL_law_269 rfl ?_
  exact k
set_option maxHeartbeats 4000000 in
set_option maxRecDepth 100000 in
theorem lc_2 {p : Program} {l : Launch} {e : Env} {s : State} {m : MethodId} {below : List Frame} {meth : Method} {c : Code} {b L : Nat} {xs : Nat → Int32} {D : va_G} {tc : Nat → ClassId} {ta tb : Nat} {Q : State → Prop} (C : gl_C p s m meth c b L xs D tc ta tb) {wc wm wc1 wm1 : ab_W} {r : Int32} {i : Nat} (hi : i + 6 ≤ L) (e1 : sX9_change 0 (xs (i + 1)) (xs (i + 2)) (xs (i + 3)) wc = some (r, wc1)) (e2 : sX10_change 0 (xs (i + 1)) (xs (i + 2)) (xs (i + 3)) wm = some (r, wm1)) (h1 : wc1.length = 65) (h2 : wm1.length = 13) (k : gl_G p l e s m below meth c b D tc ta tb Q 1458 [some (.ref b), some (.ref s.heap.size), some (.ref (s.heap.size + 65)), some (.int (nI i))] [] wc1 wm1) : gl_G p l e s m below meth c b D tc ta tb Q 274 [some (.ref b), some (.ref s.heap.size), some (.ref (s.heap.size + 65)), some (.int (nI i))] [] wc wm := by
  refine gl_aload_n C (pc' := 275) (i := 1) rfl dL_law_274 rfl rfl ?_
  refine gl_arg C (pc' := 280) (k0 := 1) dL_law_275 dL_law_276 dL_law_277 dL_law_278 dL_law_279 rfl (by decide) hi (by decide) rfl rfl ?_
  refine gl_arg C (pc' := 285) (k0 := 2) dL_law_280 dL_law_281 dL_law_282 dL_law_283 dL_law_284 rfl (by decide) hi (by decide) rfl rfl ?_
  refine gl_arg C (pc' := 290) (k0 := 3) dL_law_285 dL_law_286 dL_law_287 dL_law_288 dL_law_289 rfl (by decide) hi (by decide) rfl rfl ?_
  refine gl_callx C (pc' := 293) rfl dL_law_290 wm_L_22 uX9_change (kX9_change _ _ _ _ _ _ _ e1) h1 (by decide) (fun _ => rfl) rfl rfl (Nat.le_of_ble_eq_true rfl) ?_
  refine gl_aload_n C (pc' := 294) (i := 2) rfl dL_law_293 rfl rfl ?_
  refine gl_arg C (pc' := 299) (k0 := 1) dL_law_294 dL_law_295 dL_law_296 dL_law_297 dL_law_298 rfl (by decide) hi (by decide) rfl rfl ?_
  refine gl_arg C (pc' := 304) (k0 := 2) dL_law_299 dL_law_300 dL_law_301 dL_law_302 dL_law_303 rfl (by decide) hi (by decide) rfl rfl ?_
  refine gl_arg C (pc' := 309) (k0 := 3) dL_law_304 dL_law_305 dL_law_306 dL_law_307 dL_law_308 rfl (by decide) hi (by decide) rfl rfl ?_
  refine gl_callm C (pc' := 312) rfl dL_law_309 wm_L_26 uX10_change (kX10_change _ _ _ _ _ _ _ e2) h2 (by decide) (fun _ => rfl) rfl rfl (Nat.le_of_ble_eq_true rfl) ?_
  refine gl_eqT C (tgt := 1458) dL_law_312 rfl ?_
  exact k
set_option maxHeartbeats 4000000 in
set_option maxRecDepth 100000 in
theorem lc_3 {p : Program} {l : Launch} {e : Env} {s : State} {m : MethodId} {below : List Frame} {meth : Method} {c : Code} {b L : Nat} {xs : Nat → Int32} {D : va_G} {tc : Nat → ClassId} {ta tb : Nat} {Q : State → Prop} (C : gl_C p s m meth c b L xs D tc ta tb) {wc wm wc1 wm1 : ab_W} {r : Int32} {i : Nat} (hi : i + 6 ≤ L) (e1 : sX9_fold 0 (xs (i + 1)) (xs (i + 2)) wc = some (r, wc1)) (e2 : sX10_fold 0 (xs (i + 1)) (xs (i + 2)) wm = some (r, wm1)) (h1 : wc1.length = 65) (h2 : wm1.length = 13) (k : gl_G p l e s m below meth c b D tc ta tb Q 1458 [some (.ref b), some (.ref s.heap.size), some (.ref (s.heap.size + 65)), some (.int (nI i))] [] wc1 wm1) : gl_G p l e s m below meth c b D tc ta tb Q 317 [some (.ref b), some (.ref s.heap.size), some (.ref (s.heap.size + 65)), some (.int (nI i))] [] wc wm := by
  refine gl_aload_n C (pc' := 318) (i := 1) rfl dL_law_317 rfl rfl ?_
  refine gl_arg C (pc' := 323) (k0 := 1) dL_law_318 dL_law_319 dL_law_320 dL_law_321 dL_law_322 rfl (by decide) hi (by decide) rfl rfl ?_
  refine gl_arg C (pc' := 328) (k0 := 2) dL_law_323 dL_law_324 dL_law_325 dL_law_326 dL_law_327 rfl (by decide) hi (by decide) rfl rfl ?_
  refine gl_callx C (pc' := 331) rfl dL_law_328 wm_L_27 uX9_fold (kX9_fold _ _ _ _ _ _ e1) h1 (by decide) (fun _ => rfl) rfl rfl (Nat.le_of_ble_eq_true rfl) ?_
  refine gl_aload_n C (pc' := 332) (i := 2) rfl dL_law_331 rfl rfl ?_
  refine gl_arg C (pc' := 337) (k0 := 1) dL_law_332 dL_law_333 dL_law_334 dL_law_335 dL_law_336 rfl (by decide) hi (by decide) rfl rfl ?_
  refine gl_arg C (pc' := 342) (k0 := 2) dL_law_337 dL_law_338 dL_law_339 dL_law_340 dL_law_341 rfl (by decide) hi (by decide) rfl rfl ?_
  refine gl_callm C (pc' := 345) rfl dL_law_342 wm_L_30 uX10_fold (kX10_fold _ _ _ _ _ _ e2) h2 (by decide) (fun _ => rfl) rfl rfl (Nat.le_of_ble_eq_true rfl) ?_
  refine gl_eqT C (tgt := 1458) dL_law_345 rfl ?_
  exact k
set_option maxHeartbeats 4000000 in
set_option maxRecDepth 100000 in
theorem lc_4 {p : Program} {l : Launch} {e : Env} {s : State} {m : MethodId} {below : List Frame} {meth : Method} {c : Code} {b L : Nat} {xs : Nat → Int32} {D : va_G} {tc : Nat → ClassId} {ta tb : Nat} {Q : State → Prop} (C : gl_C p s m meth c b L xs D tc ta tb) {wc wm wc1 wm1 : ab_W} {r : Int32} {i : Nat} (hi : i + 6 ≤ L) (e1 : sX9_release 0 (xs (i + 1)) wc = some (r, wc1)) (e2 : sX10_release 0 (xs (i + 1)) wm = some (r, wm1)) (h1 : wc1.length = 65) (h2 : wm1.length = 13) (k : gl_G p l e s m below meth c b D tc ta tb Q 1458 [some (.ref b), some (.ref s.heap.size), some (.ref (s.heap.size + 65)), some (.int (nI i))] [] wc1 wm1) : gl_G p l e s m below meth c b D tc ta tb Q 350 [some (.ref b), some (.ref s.heap.size), some (.ref (s.heap.size + 65)), some (.int (nI i))] [] wc wm := by
  refine gl_aload_n C (pc' := 351) (i := 1) rfl dL_law_350 rfl rfl ?_
  refine gl_arg C (pc' := 356) (k0 := 1) dL_law_351 dL_law_352 dL_law_353 dL_law_354 dL_law_355 rfl (by decide) hi (by decide) rfl rfl ?_
  refine gl_callx C (pc' := 359) rfl dL_law_356 wm_L_31 uX9_release (kX9_release _ _ _ _ _ e1) h1 (by decide) (fun _ => rfl) rfl rfl (Nat.le_of_ble_eq_true rfl) ?_
  refine gl_aload_n C (pc' := 360) (i := 2) rfl dL_law_359 rfl rfl ?_
  refine gl_arg C (pc' := 365) (k0 := 1) dL_law_360 dL_law_361 dL_law_362 dL_law_363 dL_law_364 rfl (by decide) hi (by decide) rfl rfl ?_
  refine gl_callm C (pc' := 368) rfl dL_law_365 wm_L_35 uX10_release (kX10_release _ _ _ _ _ e2) h2 (by decide) (fun _ => rfl) rfl rfl (Nat.le_of_ble_eq_true rfl) ?_
  refine gl_eqT C (tgt := 1458) dL_law_368 rfl ?_
  exact k
set_option maxHeartbeats 4000000 in
set_option maxRecDepth 100000 in
theorem lc_5 {p : Program} {l : Launch} {e : Env} {s : State} {m : MethodId} {below : List Frame} {meth : Method} {c : Code} {b L : Nat} {xs : Nat → Int32} {D : va_G} {tc : Nat → ClassId} {ta tb : Nat} {Q : State → Prop} (C : gl_C p s m meth c b L xs D tc ta tb) {wc wm wc1 wm1 : ab_W} {r : Int32} {i : Nat} (hi : i + 6 ≤ L) (e1 : sX9_wind 0 (xs (i + 1)) wc = some (r, wc1)) (e2 : sX10_wind 0 (xs (i + 1)) wm = some (r, wm1)) (h1 : wc1.length = 65) (h2 : wm1.length = 13) (k : gl_G p l e s m below meth c b D tc ta tb Q 1458 [some (.ref b), some (.ref s.heap.size), some (.ref (s.heap.size + 65)), some (.int (nI i))] [] wc1 wm1) : gl_G p l e s m below meth c b D tc ta tb Q 373 [some (.ref b), some (.ref s.heap.size), some (.ref (s.heap.size + 65)), some (.int (nI i))] [] wc wm := by
  refine gl_aload_n C (pc' := 374) (i := 1) rfl dL_law_373 rfl rfl ?_
  refine gl_arg C (pc' := 379) (k0 := 1) dL_law_374 dL_law_375 dL_law_376 dL_law_377 dL_law_378 rfl (by decide) hi (by decide) rfl rfl ?_
  refine gl_callx C (pc' := 382) rfl dL_law_379 wm_L_36 uX9_wind (kX9_wind _ _ _ _ _ e1) h1 (by decide) (fun _ => rfl) rfl rfl (Nat.le_of_ble_eq_true rfl) ?_
  refine gl_aload_n C (pc' := 383) (i := 2) rfl dL_law_382 rfl rfl ?_
  refine gl_arg C (pc' := 388) (k0 := 1) dL_law_383 dL_law_384 dL_law_385 dL_law_386 dL_law_387 rfl (by decide) hi (by decide) rfl rfl ?_
  refine gl_callm C (pc' := 391) rfl dL_law_388 wm_L_39 uX10_wind (kX10_wind _ _ _ _ _ e2) h2 (by decide) (fun _ => rfl) rfl rfl (Nat.le_of_ble_eq_true rfl) ?_
  refine gl_eqT C (tgt := 1458) dL_law_391 rfl ?_
  exact k
set_option maxHeartbeats 4000000 in
set_option maxRecDepth 100000 in
theorem lc_6 {p : Program} {l : Launch} {e : Env} {s : State} {m : MethodId} {below : List Frame} {meth : Method} {c : Code} {b L : Nat} {xs : Nat → Int32} {D : va_G} {tc : Nat → ClassId} {ta tb : Nat} {Q : State → Prop} (C : gl_C p s m meth c b L xs D tc ta tb) {wc wm wc1 wm1 : ab_W} {r : Int32} {i : Nat} (hi : i + 6 ≤ L) (e1 : sX9_become 0 (xs (i + 1)) (xs (i + 2)) wc = some (r, wc1)) (e2 : sX10_become 0 (xs (i + 1)) (xs (i + 2)) wm = some (r, wm1)) (h1 : wc1.length = 65) (h2 : wm1.length = 13) (k : gl_G p l e s m below meth c b D tc ta tb Q 1458 [some (.ref b), some (.ref s.heap.size), some (.ref (s.heap.size + 65)), some (.int (nI i))] [] wc1 wm1) : gl_G p l e s m below meth c b D tc ta tb Q 396 [some (.ref b), some (.ref s.heap.size), some (.ref (s.heap.size + 65)), some (.int (nI i))] [] wc wm := by
  refine gl_aload_n C (pc' := 397) (i := 1) rfl dL_law_396 rfl rfl ?_
  refine gl_arg C (pc' := 402) (k0 := 1) dL_law_397 dL_law_398 dL_law_399 dL_law_400 dL_law_401 rfl (by decide) hi (by decide) rfl rfl ?_
  refine gl_arg C (pc' := 407) (k0 := 2) dL_law_402 dL_law_403 dL_law_404 dL_law_405 dL_law_406 rfl (by decide) hi (by decide) rfl rfl ?_
  refine gl_callx C (pc' := 410) rfl dL_law_407 wm_L_40 uX9_become (kX9_become _ _ _ _ _ _ e1) h1 (by decide) (fun _ => rfl) rfl rfl (Nat.le_of_ble_eq_true rfl) ?_
  refine gl_aload_n C (pc' := 411) (i := 2) rfl dL_law_410 rfl rfl ?_
  refine gl_arg C (pc' := 416) (k0 := 1) dL_law_411 dL_law_412 dL_law_413 dL_law_414 dL_law_415 rfl (by decide) hi (by decide) rfl rfl ?_
  refine gl_arg C (pc' := 421) (k0 := 2) dL_law_416 dL_law_417 dL_law_418 dL_law_419 dL_law_420 rfl (by decide) hi (by decide) rfl rfl ?_
  refine gl_callm C (pc' := 424) rfl dL_law_421 wm_L_43 uX10_become (kX10_become _ _ _ _ _ _ e2) h2 (by decide) (fun _ => rfl) rfl rfl (Nat.le_of_ble_eq_true rfl) ?_
  refine gl_eqT C (tgt := 1458) dL_law_424 rfl ?_
  exact k
set_option maxHeartbeats 4000000 in
set_option maxRecDepth 100000 in
theorem lc_7 {p : Program} {l : Launch} {e : Env} {s : State} {m : MethodId} {below : List Frame} {meth : Method} {c : Code} {b L : Nat} {xs : Nat → Int32} {D : va_G} {tc : Nat → ClassId} {ta tb : Nat} {Q : State → Prop} (C : gl_C p s m meth c b L xs D tc ta tb) {wc wm wc1 wm1 : ab_W} {r : Int32} {i : Nat} (hi : i + 6 ≤ L) (e1 : sX9_as 0 (xs (i + 1)) (xs (i + 2)) wc = some (r, wc1)) (e2 : sX10_as 0 (xs (i + 1)) (xs (i + 2)) wm = some (r, wm1)) (h1 : wc1.length = 65) (h2 : wm1.length = 13) (k : gl_G p l e s m below meth c b D tc ta tb Q 1458 [some (.ref b), some (.ref s.heap.size), some (.ref (s.heap.size + 65)), some (.int (nI i))] [] wc1 wm1) : gl_G p l e s m below meth c b D tc ta tb Q 429 [some (.ref b), some (.ref s.heap.size), some (.ref (s.heap.size + 65)), some (.int (nI i))] [] wc wm := by
  refine gl_aload_n C (pc' := 430) (i := 1) rfl dL_law_429 rfl rfl ?_
  refine gl_arg C (pc' := 435) (k0 := 1) dL_law_430 dL_law_431 dL_law_432 dL_law_433 dL_law_434 rfl (by decide) hi (by decide) rfl rfl ?_
  refine gl_arg C (pc' := 440) (k0 := 2) dL_law_435 dL_law_436 dL_law_437 dL_law_438 dL_law_439 rfl (by decide) hi (by decide) rfl rfl ?_
  refine gl_callx C (pc' := 443) rfl dL_law_440 wm_L_44 uX9_as (kX9_as _ _ _ _ _ _ e1) h1 (by decide) (fun _ => rfl) rfl rfl (Nat.le_of_ble_eq_true rfl) ?_
  refine gl_aload_n C (pc' := 444) (i := 2) rfl dL_law_443 rfl rfl ?_
  refine gl_arg C (pc' := 449) (k0 := 1) dL_law_444 dL_law_445 dL_law_446 dL_law_447 dL_law_448 rfl (by decide) hi (by decide) rfl rfl ?_
  refine gl_arg C (pc' := 454) (k0 := 2) dL_law_449 dL_law_450 dL_law_451 dL_law_452 dL_law_453 rfl (by decide) hi (by decide) rfl rfl ?_
  refine gl_callm C (pc' := 457) rfl dL_law_454 wm_L_47 uX10_as (kX10_as _ _ _ _ _ _ e2) h2 (by decide) (fun _ => rfl) rfl rfl (Nat.le_of_ble_eq_true rfl) ?_
  refine gl_eqT C (tgt := 1458) dL_law_457 rfl ?_
  exact k
set_option maxHeartbeats 4000000 in
set_option maxRecDepth 100000 in
theorem lc_8 {p : Program} {l : Launch} {e : Env} {s : State} {m : MethodId} {below : List Frame} {meth : Method} {c : Code} {b L : Nat} {xs : Nat → Int32} {D : va_G} {tc : Nat → ClassId} {ta tb : Nat} {Q : State → Prop} (C : gl_C p s m meth c b L xs D tc ta tb) {wc wm wc1 wm1 : ab_W} {r : Int32} {i : Nat} (hi : i + 6 ≤ L) (e1 : sX9_feed 0 ((((xs (i + 1)).toInt64 <<< ((32 : Int32).toInt64 &&& 63)) ||| ((xs (i + 2)).toInt64 &&& (4294967295 : Int64)))) (xs (i + 3)) wc = some (r, wc1)) (e2 : sX10_feed 0 ((((xs (i + 1)).toInt64 <<< ((32 : Int32).toInt64 &&& 63)) ||| ((xs (i + 2)).toInt64 &&& (4294967295 : Int64)))) (xs (i + 3)) wm = some (r, wm1)) (h1 : wc1.length = 65) (h2 : wm1.length = 13) (k : gl_G p l e s m below meth c b D tc ta tb Q 1458 [some (.ref b), some (.ref s.heap.size), some (.ref (s.heap.size + 65)), some (.int (nI i))] [] wc1 wm1) : gl_G p l e s m below meth c b D tc ta tb Q 462 [some (.ref b), some (.ref s.heap.size), some (.ref (s.heap.size + 65)), some (.int (nI i))] [] wc wm := by
  refine gl_aload_n C (pc' := 463) (i := 1) rfl dL_law_462 rfl rfl ?_
  refine gl_arg C (pc' := 468) (k0 := 1) dL_law_463 dL_law_464 dL_law_465 dL_law_466 dL_law_467 rfl (by decide) hi (by decide) rfl rfl ?_
  refine gl_i2l C (pc' := 469) rfl dL_law_468 ?_
  refine gl_bipush C (pc' := 471) (v := 32) rfl dL_law_469 (by decide) ?_
  refine gl_lshl C (pc' := 472) rfl dL_law_471 ?_
  refine gl_arg C (pc' := 477) (k0 := 2) dL_law_472 dL_law_473 dL_law_474 dL_law_475 dL_law_476 rfl (by decide) hi (by decide) rfl rfl ?_
  refine gl_i2l C (pc' := 478) rfl dL_law_477 ?_
  refine gl_ldc2 C (pc' := 481) rfl dL_law_478 wk_L_48 ?_
  refine gl_land C (pc' := 482) rfl dL_law_481 ?_
  refine gl_lor C (pc' := 483) rfl dL_law_482 ?_
  refine gl_arg C (pc' := 488) (k0 := 3) dL_law_483 dL_law_484 dL_law_485 dL_law_486 dL_law_487 rfl (by decide) hi (by decide) rfl rfl ?_
  refine gl_callx C (pc' := 491) rfl dL_law_488 wm_L_50 uX9_feed (kX9_feed _ _ _ _ _ _ e1) h1 (by decide) (fun _ => rfl) rfl rfl (Nat.le_of_ble_eq_true rfl) ?_
  refine gl_aload_n C (pc' := 492) (i := 2) rfl dL_law_491 rfl rfl ?_
  refine gl_arg C (pc' := 497) (k0 := 1) dL_law_492 dL_law_493 dL_law_494 dL_law_495 dL_law_496 rfl (by decide) hi (by decide) rfl rfl ?_
  refine gl_i2l C (pc' := 498) rfl dL_law_497 ?_
  refine gl_bipush C (pc' := 500) (v := 32) rfl dL_law_498 (by decide) ?_
  refine gl_lshl C (pc' := 501) rfl dL_law_500 ?_
  refine gl_arg C (pc' := 506) (k0 := 2) dL_law_501 dL_law_502 dL_law_503 dL_law_504 dL_law_505 rfl (by decide) hi (by decide) rfl rfl ?_
  refine gl_i2l C (pc' := 507) rfl dL_law_506 ?_
  refine gl_ldc2 C (pc' := 510) rfl dL_law_507 wk_L_48 ?_
  refine gl_land C (pc' := 511) rfl dL_law_510 ?_
  refine gl_lor C (pc' := 512) rfl dL_law_511 ?_
  refine gl_arg C (pc' := 517) (k0 := 3) dL_law_512 dL_law_513 dL_law_514 dL_law_515 dL_law_516 rfl (by decide) hi (by decide) rfl rfl ?_
  refine gl_callm C (pc' := 520) rfl dL_law_517 wm_L_54 uX10_feed (kX10_feed _ _ _ _ _ _ e2) h2 (by decide) (fun _ => rfl) rfl rfl (Nat.le_of_ble_eq_true rfl) ?_
  refine gl_eqT C (tgt := 1458) dL_law_520 rfl ?_
  exact k
set_option maxHeartbeats 4000000 in
set_option maxRecDepth 100000 in
theorem lc_9 {p : Program} {l : Launch} {e : Env} {s : State} {m : MethodId} {below : List Frame} {meth : Method} {c : Code} {b L : Nat} {xs : Nat → Int32} {D : va_G} {tc : Nat → ClassId} {ta tb : Nat} {Q : State → Prop} (C : gl_C p s m meth c b L xs D tc ta tb) {wc wm wc1 wm1 : ab_W} {r : Int32} {i : Nat} (hi : i + 6 ≤ L) (e1 : sX9_text 0 (xs (i + 1)) wc = some (r, wc1)) (e2 : sX10_text 0 (xs (i + 1)) wm = some (r, wm1)) (h1 : wc1.length = 65) (h2 : wm1.length = 13) (k : gl_G p l e s m below meth c b D tc ta tb Q 1458 [some (.ref b), some (.ref s.heap.size), some (.ref (s.heap.size + 65)), some (.int (nI i))] [] wc1 wm1) : gl_G p l e s m below meth c b D tc ta tb Q 525 [some (.ref b), some (.ref s.heap.size), some (.ref (s.heap.size + 65)), some (.int (nI i))] [] wc wm := by
  refine gl_aload_n C (pc' := 526) (i := 1) rfl dL_law_525 rfl rfl ?_
  refine gl_arg C (pc' := 531) (k0 := 1) dL_law_526 dL_law_527 dL_law_528 dL_law_529 dL_law_530 rfl (by decide) hi (by decide) rfl rfl ?_
  refine gl_callx C (pc' := 534) rfl dL_law_531 wm_L_55 uX9_text (kX9_text _ _ _ _ _ e1) h1 (by decide) (fun _ => rfl) rfl rfl (Nat.le_of_ble_eq_true rfl) ?_
  refine gl_aload_n C (pc' := 535) (i := 2) rfl dL_law_534 rfl rfl ?_
  refine gl_arg C (pc' := 540) (k0 := 1) dL_law_535 dL_law_536 dL_law_537 dL_law_538 dL_law_539 rfl (by decide) hi (by decide) rfl rfl ?_
  refine gl_callm C (pc' := 543) rfl dL_law_540 wm_L_58 uX10_text (kX10_text _ _ _ _ _ e2) h2 (by decide) (fun _ => rfl) rfl rfl (Nat.le_of_ble_eq_true rfl) ?_
  refine gl_eqT C (tgt := 1458) dL_law_543 rfl ?_
  exact k
set_option maxHeartbeats 4000000 in
set_option maxRecDepth 100000 in
theorem lc_10 {p : Program} {l : Launch} {e : Env} {s : State} {m : MethodId} {below : List Frame} {meth : Method} {c : Code} {b L : Nat} {xs : Nat → Int32} {D : va_G} {tc : Nat → ClassId} {ta tb : Nat} {Q : State → Prop} (C : gl_C p s m meth c b L xs D tc ta tb) {wc wm wc1 wm1 : ab_W} {r : Int32} {i : Nat} (hi : i + 6 ≤ L) (e1 : sX9_law 0 (xs (i + 1)) (xs (i + 2)) (xs (i + 3)) (xs (i + 4)) wc = some (r, wc1)) (e2 : sX10_law 0 (xs (i + 1)) (xs (i + 2)) (xs (i + 3)) (xs (i + 4)) wm = some (r, wm1)) (h1 : wc1.length = 65) (h2 : wm1.length = 13) (k : gl_G p l e s m below meth c b D tc ta tb Q 1458 [some (.ref b), some (.ref s.heap.size), some (.ref (s.heap.size + 65)), some (.int (nI i))] [] wc1 wm1) : gl_G p l e s m below meth c b D tc ta tb Q 548 [some (.ref b), some (.ref s.heap.size), some (.ref (s.heap.size + 65)), some (.int (nI i))] [] wc wm := by
  refine gl_aload_n C (pc' := 549) (i := 1) rfl dL_law_548 rfl rfl ?_
  refine gl_arg C (pc' := 554) (k0 := 1) dL_law_549 dL_law_550 dL_law_551 dL_law_552 dL_law_553 rfl (by decide) hi (by decide) rfl rfl ?_
  refine gl_arg C (pc' := 559) (k0 := 2) dL_law_554 dL_law_555 dL_law_556 dL_law_557 dL_law_558 rfl (by decide) hi (by decide) rfl rfl ?_
  refine gl_arg C (pc' := 564) (k0 := 3) dL_law_559 dL_law_560 dL_law_561 dL_law_562 dL_law_563 rfl (by decide) hi (by decide) rfl rfl ?_
  refine gl_arg C (pc' := 569) (k0 := 4) dL_law_564 dL_law_565 dL_law_566 dL_law_567 dL_law_568 rfl (by decide) hi (by decide) rfl rfl ?_
  refine gl_callx C (pc' := 572) rfl dL_law_569 wm_L_59 uX9_law (kX9_law _ _ _ _ _ _ _ _ e1) h1 (by decide) (fun _ => rfl) rfl rfl (Nat.le_of_ble_eq_true rfl) ?_
  refine gl_aload_n C (pc' := 573) (i := 2) rfl dL_law_572 rfl rfl ?_
  refine gl_arg C (pc' := 578) (k0 := 1) dL_law_573 dL_law_574 dL_law_575 dL_law_576 dL_law_577 rfl (by decide) hi (by decide) rfl rfl ?_
  refine gl_arg C (pc' := 583) (k0 := 2) dL_law_578 dL_law_579 dL_law_580 dL_law_581 dL_law_582 rfl (by decide) hi (by decide) rfl rfl ?_
  refine gl_arg C (pc' := 588) (k0 := 3) dL_law_583 dL_law_584 dL_law_585 dL_law_586 dL_law_587 rfl (by decide) hi (by decide) rfl rfl ?_
  refine gl_arg C (pc' := 593) (k0 := 4) dL_law_588 dL_law_589 dL_law_590 dL_law_591 dL_law_592 rfl (by decide) hi (by decide) rfl rfl ?_
  refine gl_callm C (pc' := 596) rfl dL_law_593 wm_L_63 uX10_law (kX10_law _ _ _ _ _ _ _ _ e2) h2 (by decide) (fun _ => rfl) rfl rfl (Nat.le_of_ble_eq_true rfl) ?_
  refine gl_eqT C (tgt := 1458) dL_law_596 rfl ?_
  exact k
set_option maxHeartbeats 4000000 in
set_option maxRecDepth 100000 in
theorem lc_11 {p : Program} {l : Launch} {e : Env} {s : State} {m : MethodId} {below : List Frame} {meth : Method} {c : Code} {b L : Nat} {xs : Nat → Int32} {D : va_G} {tc : Nat → ClassId} {ta tb : Nat} {Q : State → Prop} (C : gl_C p s m meth c b L xs D tc ta tb) {wc wm wc1 wm1 : ab_W} {r : Int32} {i : Nat} (hi : i + 6 ≤ L) (e1 : sX9_days 0 (xs (i + 1)) wc = some (r, wc1)) (e2 : sX10_days 0 (xs (i + 1)) wm = some (r, wm1)) (h1 : wc1.length = 65) (h2 : wm1.length = 13) (k : gl_G p l e s m below meth c b D tc ta tb Q 1458 [some (.ref b), some (.ref s.heap.size), some (.ref (s.heap.size + 65)), some (.int (nI i))] [] wc1 wm1) : gl_G p l e s m below meth c b D tc ta tb Q 601 [some (.ref b), some (.ref s.heap.size), some (.ref (s.heap.size + 65)), some (.int (nI i))] [] wc wm := by
  refine gl_aload_n C (pc' := 602) (i := 1) rfl dL_law_601 rfl rfl ?_
  refine gl_arg C (pc' := 607) (k0 := 1) dL_law_602 dL_law_603 dL_law_604 dL_law_605 dL_law_606 rfl (by decide) hi (by decide) rfl rfl ?_
  refine gl_callx C (pc' := 610) rfl dL_law_607 wm_L_64 uX9_days (kX9_days _ _ _ _ _ e1) h1 (by decide) (fun _ => rfl) rfl rfl (Nat.le_of_ble_eq_true rfl) ?_
  refine gl_aload_n C (pc' := 611) (i := 2) rfl dL_law_610 rfl rfl ?_
  refine gl_arg C (pc' := 616) (k0 := 1) dL_law_611 dL_law_612 dL_law_613 dL_law_614 dL_law_615 rfl (by decide) hi (by decide) rfl rfl ?_
  refine gl_callm C (pc' := 619) rfl dL_law_616 wm_L_67 uX10_days (kX10_days _ _ _ _ _ e2) h2 (by decide) (fun _ => rfl) rfl rfl (Nat.le_of_ble_eq_true rfl) ?_
  refine gl_eqT C (tgt := 1458) dL_law_619 rfl ?_
  exact k
set_option maxHeartbeats 4000000 in
set_option maxRecDepth 100000 in
theorem lc_12 {p : Program} {l : Launch} {e : Env} {s : State} {m : MethodId} {below : List Frame} {meth : Method} {c : Code} {b L : Nat} {xs : Nat → Int32} {D : va_G} {tc : Nat → ClassId} {ta tb : Nat} {Q : State → Prop} (C : gl_C p s m meth c b L xs D tc ta tb) {wc wm wc1 wm1 : ab_W} {r : Int32} {i : Nat} (hi : i + 6 ≤ L) (e1 : sX9_loose 0 (xs (i + 1)) wc = some (r, wc1)) (e2 : sX10_loose 0 (xs (i + 1)) wm = some (r, wm1)) (h1 : wc1.length = 65) (h2 : wm1.length = 13) (k : gl_G p l e s m below meth c b D tc ta tb Q 1458 [some (.ref b), some (.ref s.heap.size), some (.ref (s.heap.size + 65)), some (.int (nI i))] [] wc1 wm1) : gl_G p l e s m below meth c b D tc ta tb Q 624 [some (.ref b), some (.ref s.heap.size), some (.ref (s.heap.size + 65)), some (.int (nI i))] [] wc wm := by
  refine gl_aload_n C (pc' := 625) (i := 1) rfl dL_law_624 rfl rfl ?_
  refine gl_arg C (pc' := 630) (k0 := 1) dL_law_625 dL_law_626 dL_law_627 dL_law_628 dL_law_629 rfl (by decide) hi (by decide) rfl rfl ?_
  refine gl_callx C (pc' := 633) rfl dL_law_630 wm_L_68 uX9_loose (kX9_loose _ _ _ _ _ e1) h1 (by decide) (fun _ => rfl) rfl rfl (Nat.le_of_ble_eq_true rfl) ?_
  refine gl_aload_n C (pc' := 634) (i := 2) rfl dL_law_633 rfl rfl ?_
  refine gl_arg C (pc' := 639) (k0 := 1) dL_law_634 dL_law_635 dL_law_636 dL_law_637 dL_law_638 rfl (by decide) hi (by decide) rfl rfl ?_
  refine gl_callm C (pc' := 642) rfl dL_law_639 wm_L_71 uX10_loose (kX10_loose _ _ _ _ _ e2) h2 (by decide) (fun _ => rfl) rfl rfl (Nat.le_of_ble_eq_true rfl) ?_
  refine gl_eqT C (tgt := 1458) dL_law_642 rfl ?_
  exact k
set_option maxHeartbeats 4000000 in
set_option maxRecDepth 100000 in
theorem lc_13 {p : Program} {l : Launch} {e : Env} {s : State} {m : MethodId} {below : List Frame} {meth : Method} {c : Code} {b L : Nat} {xs : Nat → Int32} {D : va_G} {tc : Nat → ClassId} {ta tb : Nat} {Q : State → Prop} (C : gl_C p s m meth c b L xs D tc ta tb) {wc wm wc1 wm1 : ab_W} {r : Int32} {i : Nat} (hi : i + 6 ≤ L) (e1 : sX9_shape 0 (xs (i + 1)) (xs (i + 2)) wc = some (r, wc1)) (e2 : sX10_shape 0 (xs (i + 1)) (xs (i + 2)) wm = some (r, wm1)) (h1 : wc1.length = 65) (h2 : wm1.length = 13) (k : gl_G p l e s m below meth c b D tc ta tb Q 1458 [some (.ref b), some (.ref s.heap.size), some (.ref (s.heap.size + 65)), some (.int (nI i))] [] wc1 wm1) : gl_G p l e s m below meth c b D tc ta tb Q 647 [some (.ref b), some (.ref s.heap.size), some (.ref (s.heap.size + 65)), some (.int (nI i))] [] wc wm := by
  refine gl_aload_n C (pc' := 648) (i := 1) rfl dL_law_647 rfl rfl ?_
  refine gl_arg C (pc' := 653) (k0 := 1) dL_law_648 dL_law_649 dL_law_650 dL_law_651 dL_law_652 rfl (by decide) hi (by decide) rfl rfl ?_
  refine gl_arg C (pc' := 658) (k0 := 2) dL_law_653 dL_law_654 dL_law_655 dL_law_656 dL_law_657 rfl (by decide) hi (by decide) rfl rfl ?_
  refine gl_callx C (pc' := 661) rfl dL_law_658 wm_L_72 uX9_shape (kX9_shape _ _ _ _ _ _ e1) h1 (by decide) (fun _ => rfl) rfl rfl (Nat.le_of_ble_eq_true rfl) ?_
  refine gl_aload_n C (pc' := 662) (i := 2) rfl dL_law_661 rfl rfl ?_
  refine gl_arg C (pc' := 667) (k0 := 1) dL_law_662 dL_law_663 dL_law_664 dL_law_665 dL_law_666 rfl (by decide) hi (by decide) rfl rfl ?_
  refine gl_arg C (pc' := 672) (k0 := 2) dL_law_667 dL_law_668 dL_law_669 dL_law_670 dL_law_671 rfl (by decide) hi (by decide) rfl rfl ?_
  refine gl_callm C (pc' := 675) rfl dL_law_672 wm_L_75 uX10_shape (kX10_shape _ _ _ _ _ _ e2) h2 (by decide) (fun _ => rfl) rfl rfl (Nat.le_of_ble_eq_true rfl) ?_
  refine gl_eqT C (tgt := 1458) dL_law_675 rfl ?_
  exact k
set_option maxHeartbeats 4000000 in
set_option maxRecDepth 100000 in
theorem lc_14 {p : Program} {l : Launch} {e : Env} {s : State} {m : MethodId} {below : List Frame} {meth : Method} {c : Code} {b L : Nat} {xs : Nat → Int32} {D : va_G} {tc : Nat → ClassId} {ta tb : Nat} {Q : State → Prop} (C : gl_C p s m meth c b L xs D tc ta tb) {wc wm wc1 wm1 : ab_W} {r : Int32} {i : Nat} (hi : i + 6 ≤ L) (e1 : sX9_least 0 (xs (i + 1)) (xs (i + 2)) wc = some (r, wc1)) (e2 : sX10_least 0 (xs (i + 1)) (xs (i + 2)) wm = some (r, wm1)) (h1 : wc1.length = 65) (h2 : wm1.length = 13) (k : gl_G p l e s m below meth c b D tc ta tb Q 1458 [some (.ref b), some (.ref s.heap.size), some (.ref (s.heap.size + 65)), some (.int (nI i))] [] wc1 wm1) : gl_G p l e s m below meth c b D tc ta tb Q 680 [some (.ref b), some (.ref s.heap.size), some (.ref (s.heap.size + 65)), some (.int (nI i))] [] wc wm := by
  refine gl_aload_n C (pc' := 681) (i := 1) rfl dL_law_680 rfl rfl ?_
  refine gl_arg C (pc' := 686) (k0 := 1) dL_law_681 dL_law_682 dL_law_683 dL_law_684 dL_law_685 rfl (by decide) hi (by decide) rfl rfl ?_
  refine gl_arg C (pc' := 691) (k0 := 2) dL_law_686 dL_law_687 dL_law_688 dL_law_689 dL_law_690 rfl (by decide) hi (by decide) rfl rfl ?_
  refine gl_callx C (pc' := 694) rfl dL_law_691 wm_L_76 uX9_least (kX9_least _ _ _ _ _ _ e1) h1 (by decide) (fun _ => rfl) rfl rfl (Nat.le_of_ble_eq_true rfl) ?_
  refine gl_aload_n C (pc' := 695) (i := 2) rfl dL_law_694 rfl rfl ?_
  refine gl_arg C (pc' := 700) (k0 := 1) dL_law_695 dL_law_696 dL_law_697 dL_law_698 dL_law_699 rfl (by decide) hi (by decide) rfl rfl ?_
  refine gl_arg C (pc' := 705) (k0 := 2) dL_law_700 dL_law_701 dL_law_702 dL_law_703 dL_law_704 rfl (by decide) hi (by decide) rfl rfl ?_
  refine gl_callm C (pc' := 708) rfl dL_law_705 wm_L_79 uX10_least (kX10_least _ _ _ _ _ _ e2) h2 (by decide) (fun _ => rfl) rfl rfl (Nat.le_of_ble_eq_true rfl) ?_
  refine gl_eqT C (tgt := 1458) dL_law_708 rfl ?_
  exact k
set_option maxHeartbeats 4000000 in
set_option maxRecDepth 100000 in
theorem lc_15 {p : Program} {l : Launch} {e : Env} {s : State} {m : MethodId} {below : List Frame} {meth : Method} {c : Code} {b L : Nat} {xs : Nat → Int32} {D : va_G} {tc : Nat → ClassId} {ta tb : Nat} {Q : State → Prop} (C : gl_C p s m meth c b L xs D tc ta tb) {wc wm wc1 wm1 : ab_W} {r : Int32} {i : Nat} (hi : i + 6 ≤ L) (e1 : sX9_shapes 0 (xs (i + 1)) (xs (i + 2)) (xs (i + 3)) wc = some (r, wc1)) (e2 : sX10_shapes 0 (xs (i + 1)) (xs (i + 2)) (xs (i + 3)) wm = some (r, wm1)) (h1 : wc1.length = 65) (h2 : wm1.length = 13) (k : gl_G p l e s m below meth c b D tc ta tb Q 1458 [some (.ref b), some (.ref s.heap.size), some (.ref (s.heap.size + 65)), some (.int (nI i))] [] wc1 wm1) : gl_G p l e s m below meth c b D tc ta tb Q 713 [some (.ref b), some (.ref s.heap.size), some (.ref (s.heap.size + 65)), some (.int (nI i))] [] wc wm := by
  refine gl_aload_n C (pc' := 714) (i := 1) rfl dL_law_713 rfl rfl ?_
  refine gl_arg C (pc' := 719) (k0 := 1) dL_law_714 dL_law_715 dL_law_716 dL_law_717 dL_law_718 rfl (by decide) hi (by decide) rfl rfl ?_
  refine gl_arg C (pc' := 724) (k0 := 2) dL_law_719 dL_law_720 dL_law_721 dL_law_722 dL_law_723 rfl (by decide) hi (by decide) rfl rfl ?_
  refine gl_arg C (pc' := 729) (k0 := 3) dL_law_724 dL_law_725 dL_law_726 dL_law_727 dL_law_728 rfl (by decide) hi (by decide) rfl rfl ?_
  refine gl_callx C (pc' := 732) rfl dL_law_729 wm_L_80 uX9_shapes (kX9_shapes _ _ _ _ _ _ _ e1) h1 (by decide) (fun _ => rfl) rfl rfl (Nat.le_of_ble_eq_true rfl) ?_
  refine gl_aload_n C (pc' := 733) (i := 2) rfl dL_law_732 rfl rfl ?_
  refine gl_arg C (pc' := 738) (k0 := 1) dL_law_733 dL_law_734 dL_law_735 dL_law_736 dL_law_737 rfl (by decide) hi (by decide) rfl rfl ?_
  refine gl_arg C (pc' := 743) (k0 := 2) dL_law_738 dL_law_739 dL_law_740 dL_law_741 dL_law_742 rfl (by decide) hi (by decide) rfl rfl ?_
  refine gl_arg C (pc' := 748) (k0 := 3) dL_law_743 dL_law_744 dL_law_745 dL_law_746 dL_law_747 rfl (by decide) hi (by decide) rfl rfl ?_
  refine gl_callm C (pc' := 751) rfl dL_law_748 wm_L_83 uX10_shapes (kX10_shapes _ _ _ _ _ _ _ e2) h2 (by decide) (fun _ => rfl) rfl rfl (Nat.le_of_ble_eq_true rfl) ?_
  refine gl_eqT C (tgt := 1458) dL_law_751 rfl ?_
  exact k
set_option maxHeartbeats 4000000 in
set_option maxRecDepth 100000 in
theorem lc_16 {p : Program} {l : Launch} {e : Env} {s : State} {m : MethodId} {below : List Frame} {meth : Method} {c : Code} {b L : Nat} {xs : Nat → Int32} {D : va_G} {tc : Nat → ClassId} {ta tb : Nat} {Q : State → Prop} (C : gl_C p s m meth c b L xs D tc ta tb) {wc wm wc1 wm1 : ab_W} {r : Int32} {i : Nat} (hi : i + 6 ≤ L) (e1 : sX9_way 0 (xs (i + 1)) (xs (i + 2)) wc = some (r, wc1)) (e2 : sX10_way 0 (xs (i + 1)) (xs (i + 2)) wm = some (r, wm1)) (h1 : wc1.length = 65) (h2 : wm1.length = 13) (k : gl_G p l e s m below meth c b D tc ta tb Q 1458 [some (.ref b), some (.ref s.heap.size), some (.ref (s.heap.size + 65)), some (.int (nI i))] [] wc1 wm1) : gl_G p l e s m below meth c b D tc ta tb Q 756 [some (.ref b), some (.ref s.heap.size), some (.ref (s.heap.size + 65)), some (.int (nI i))] [] wc wm := by
  refine gl_aload_n C (pc' := 757) (i := 1) rfl dL_law_756 rfl rfl ?_
  refine gl_arg C (pc' := 762) (k0 := 1) dL_law_757 dL_law_758 dL_law_759 dL_law_760 dL_law_761 rfl (by decide) hi (by decide) rfl rfl ?_
  refine gl_arg C (pc' := 767) (k0 := 2) dL_law_762 dL_law_763 dL_law_764 dL_law_765 dL_law_766 rfl (by decide) hi (by decide) rfl rfl ?_
  refine gl_callx C (pc' := 770) rfl dL_law_767 wm_L_84 uX9_way (kX9_way _ _ _ _ _ _ e1) h1 (by decide) (fun _ => rfl) rfl rfl (Nat.le_of_ble_eq_true rfl) ?_
  refine gl_aload_n C (pc' := 771) (i := 2) rfl dL_law_770 rfl rfl ?_
  refine gl_arg C (pc' := 776) (k0 := 1) dL_law_771 dL_law_772 dL_law_773 dL_law_774 dL_law_775 rfl (by decide) hi (by decide) rfl rfl ?_
  refine gl_arg C (pc' := 781) (k0 := 2) dL_law_776 dL_law_777 dL_law_778 dL_law_779 dL_law_780 rfl (by decide) hi (by decide) rfl rfl ?_
  refine gl_callm C (pc' := 784) rfl dL_law_781 wm_L_87 uX10_way (kX10_way _ _ _ _ _ _ e2) h2 (by decide) (fun _ => rfl) rfl rfl (Nat.le_of_ble_eq_true rfl) ?_
  refine gl_eqT C (tgt := 1458) dL_law_784 rfl ?_
  exact k
set_option maxHeartbeats 4000000 in
set_option maxRecDepth 100000 in
theorem lc_17 {p : Program} {l : Launch} {e : Env} {s : State} {m : MethodId} {below : List Frame} {meth : Method} {c : Code} {b L : Nat} {xs : Nat → Int32} {D : va_G} {tc : Nat → ClassId} {ta tb : Nat} {Q : State → Prop} (C : gl_C p s m meth c b L xs D tc ta tb) {wc wm wc1 wm1 : ab_W} {r : Int32} {i : Nat} (hi : i + 6 ≤ L) (e1 : sX9_open 0 (xs (i + 1)) (xs (i + 2)) wc = some (r, wc1)) (e2 : sX10_open 0 (xs (i + 1)) (xs (i + 2)) wm = some (r, wm1)) (h1 : wc1.length = 65) (h2 : wm1.length = 13) (k : gl_G p l e s m below meth c b D tc ta tb Q 1458 [some (.ref b), some (.ref s.heap.size), some (.ref (s.heap.size + 65)), some (.int (nI i))] [] wc1 wm1) : gl_G p l e s m below meth c b D tc ta tb Q 789 [some (.ref b), some (.ref s.heap.size), some (.ref (s.heap.size + 65)), some (.int (nI i))] [] wc wm := by
  refine gl_aload_n C (pc' := 790) (i := 1) rfl dL_law_789 rfl rfl ?_
  refine gl_arg C (pc' := 795) (k0 := 1) dL_law_790 dL_law_791 dL_law_792 dL_law_793 dL_law_794 rfl (by decide) hi (by decide) rfl rfl ?_
  refine gl_arg C (pc' := 800) (k0 := 2) dL_law_795 dL_law_796 dL_law_797 dL_law_798 dL_law_799 rfl (by decide) hi (by decide) rfl rfl ?_
  refine gl_callx C (pc' := 803) rfl dL_law_800 wm_L_88 uX9_open (kX9_open _ _ _ _ _ _ e1) h1 (by decide) (fun _ => rfl) rfl rfl (Nat.le_of_ble_eq_true rfl) ?_
  refine gl_aload_n C (pc' := 804) (i := 2) rfl dL_law_803 rfl rfl ?_
  refine gl_arg C (pc' := 809) (k0 := 1) dL_law_804 dL_law_805 dL_law_806 dL_law_807 dL_law_808 rfl (by decide) hi (by decide) rfl rfl ?_
  refine gl_arg C (pc' := 814) (k0 := 2) dL_law_809 dL_law_810 dL_law_811 dL_law_812 dL_law_813 rfl (by decide) hi (by decide) rfl rfl ?_
  refine gl_callm C (pc' := 817) rfl dL_law_814 wm_L_91 uX10_open (kX10_open _ _ _ _ _ _ e2) h2 (by decide) (fun _ => rfl) rfl rfl (Nat.le_of_ble_eq_true rfl) ?_
  refine gl_eqT C (tgt := 1458) dL_law_817 rfl ?_
  exact k
set_option maxHeartbeats 4000000 in
set_option maxRecDepth 100000 in
theorem lc_18 {p : Program} {l : Launch} {e : Env} {s : State} {m : MethodId} {below : List Frame} {meth : Method} {c : Code} {b L : Nat} {xs : Nat → Int32} {D : va_G} {tc : Nat → ClassId} {ta tb : Nat} {Q : State → Prop} (C : gl_C p s m meth c b L xs D tc ta tb) {wc wm wc1 wm1 : ab_W} {r : Int32} {i : Nat} (hi : i + 6 ≤ L) (e1 : sX9_alike 0 (xs (i + 1)) wc = some (r, wc1)) (e2 : sX10_alike 0 (xs (i + 1)) wm = some (r, wm1)) (h1 : wc1.length = 65) (h2 : wm1.length = 13) (k : gl_G p l e s m below meth c b D tc ta tb Q 1458 [some (.ref b), some (.ref s.heap.size), some (.ref (s.heap.size + 65)), some (.int (nI i))] [] wc1 wm1) : gl_G p l e s m below meth c b D tc ta tb Q 822 [some (.ref b), some (.ref s.heap.size), some (.ref (s.heap.size + 65)), some (.int (nI i))] [] wc wm := by
  refine gl_aload_n C (pc' := 823) (i := 1) rfl dL_law_822 rfl rfl ?_
  refine gl_arg C (pc' := 828) (k0 := 1) dL_law_823 dL_law_824 dL_law_825 dL_law_826 dL_law_827 rfl (by decide) hi (by decide) rfl rfl ?_
  refine gl_callx C (pc' := 831) rfl dL_law_828 wm_L_92 uX9_alike (kX9_alike _ _ _ _ _ e1) h1 (by decide) (fun _ => rfl) rfl rfl (Nat.le_of_ble_eq_true rfl) ?_
  refine gl_aload_n C (pc' := 832) (i := 2) rfl dL_law_831 rfl rfl ?_
  refine gl_arg C (pc' := 837) (k0 := 1) dL_law_832 dL_law_833 dL_law_834 dL_law_835 dL_law_836 rfl (by decide) hi (by decide) rfl rfl ?_
  refine gl_callm C (pc' := 840) rfl dL_law_837 wm_L_95 uX10_alike (kX10_alike _ _ _ _ _ e2) h2 (by decide) (fun _ => rfl) rfl rfl (Nat.le_of_ble_eq_true rfl) ?_
  refine gl_eqT C (tgt := 1458) dL_law_840 rfl ?_
  exact k
set_option maxHeartbeats 4000000 in
set_option maxRecDepth 100000 in
theorem lc_19 {p : Program} {l : Launch} {e : Env} {s : State} {m : MethodId} {below : List Frame} {meth : Method} {c : Code} {b L : Nat} {xs : Nat → Int32} {D : va_G} {tc : Nat → ClassId} {ta tb : Nat} {Q : State → Prop} (C : gl_C p s m meth c b L xs D tc ta tb) {wc wm wc1 wm1 : ab_W} {r : Int32} {i : Nat} (hi : i + 6 ≤ L) (e1 : sX9_then 0 (xs (i + 1)) (xs (i + 2)) (xs (i + 3)) wc = some (r, wc1)) (e2 : sX10_then 0 (xs (i + 1)) (xs (i + 2)) (xs (i + 3)) wm = some (r, wm1)) (h1 : wc1.length = 65) (h2 : wm1.length = 13) (k : gl_G p l e s m below meth c b D tc ta tb Q 1458 [some (.ref b), some (.ref s.heap.size), some (.ref (s.heap.size + 65)), some (.int (nI i))] [] wc1 wm1) : gl_G p l e s m below meth c b D tc ta tb Q 845 [some (.ref b), some (.ref s.heap.size), some (.ref (s.heap.size + 65)), some (.int (nI i))] [] wc wm := by
  refine gl_aload_n C (pc' := 846) (i := 1) rfl dL_law_845 rfl rfl ?_
  refine gl_arg C (pc' := 851) (k0 := 1) dL_law_846 dL_law_847 dL_law_848 dL_law_849 dL_law_850 rfl (by decide) hi (by decide) rfl rfl ?_
  refine gl_arg C (pc' := 856) (k0 := 2) dL_law_851 dL_law_852 dL_law_853 dL_law_854 dL_law_855 rfl (by decide) hi (by decide) rfl rfl ?_
  refine gl_arg C (pc' := 861) (k0 := 3) dL_law_856 dL_law_857 dL_law_858 dL_law_859 dL_law_860 rfl (by decide) hi (by decide) rfl rfl ?_
  refine gl_callx C (pc' := 864) rfl dL_law_861 wm_L_96 uX9_then (kX9_then _ _ _ _ _ _ _ e1) h1 (by decide) (fun _ => rfl) rfl rfl (Nat.le_of_ble_eq_true rfl) ?_
  refine gl_aload_n C (pc' := 865) (i := 2) rfl dL_law_864 rfl rfl ?_
  refine gl_arg C (pc' := 870) (k0 := 1) dL_law_865 dL_law_866 dL_law_867 dL_law_868 dL_law_869 rfl (by decide) hi (by decide) rfl rfl ?_
  refine gl_arg C (pc' := 875) (k0 := 2) dL_law_870 dL_law_871 dL_law_872 dL_law_873 dL_law_874 rfl (by decide) hi (by decide) rfl rfl ?_
  refine gl_arg C (pc' := 880) (k0 := 3) dL_law_875 dL_law_876 dL_law_877 dL_law_878 dL_law_879 rfl (by decide) hi (by decide) rfl rfl ?_
  refine gl_callm C (pc' := 883) rfl dL_law_880 wm_L_99 uX10_then (kX10_then _ _ _ _ _ _ _ e2) h2 (by decide) (fun _ => rfl) rfl rfl (Nat.le_of_ble_eq_true rfl) ?_
  refine gl_eqT C (tgt := 1458) dL_law_883 rfl ?_
  exact k
set_option maxHeartbeats 4000000 in
set_option maxRecDepth 100000 in
theorem lc_20 {p : Program} {l : Launch} {e : Env} {s : State} {m : MethodId} {below : List Frame} {meth : Method} {c : Code} {b L : Nat} {xs : Nat → Int32} {D : va_G} {tc : Nat → ClassId} {ta tb : Nat} {Q : State → Prop} (C : gl_C p s m meth c b L xs D tc ta tb) {wc wm wc1 wm1 : ab_W} {r : Int32} {i : Nat} (hi : i + 6 ≤ L) (e1 : sX9_first 0 (xs (i + 1)) wc = some (r, wc1)) (e2 : sX10_first 0 (xs (i + 1)) wm = some (r, wm1)) (h1 : wc1.length = 65) (h2 : wm1.length = 13) (k : gl_G p l e s m below meth c b D tc ta tb Q 1458 [some (.ref b), some (.ref s.heap.size), some (.ref (s.heap.size + 65)), some (.int (nI i))] [] wc1 wm1) : gl_G p l e s m below meth c b D tc ta tb Q 888 [some (.ref b), some (.ref s.heap.size), some (.ref (s.heap.size + 65)), some (.int (nI i))] [] wc wm := by
  refine gl_aload_n C (pc' := 889) (i := 1) rfl dL_law_888 rfl rfl ?_
  refine gl_arg C (pc' := 894) (k0 := 1) dL_law_889 dL_law_890 dL_law_891 dL_law_892 dL_law_893 rfl (by decide) hi (by decide) rfl rfl ?_
  refine gl_callx C (pc' := 897) rfl dL_law_894 wm_L_100 uX9_first (kX9_first _ _ _ _ _ e1) h1 (by decide) (fun _ => rfl) rfl rfl (Nat.le_of_ble_eq_true rfl) ?_
  refine gl_aload_n C (pc' := 898) (i := 2) rfl dL_law_897 rfl rfl ?_
  refine gl_arg C (pc' := 903) (k0 := 1) dL_law_898 dL_law_899 dL_law_900 dL_law_901 dL_law_902 rfl (by decide) hi (by decide) rfl rfl ?_
  refine gl_callm C (pc' := 906) rfl dL_law_903 wm_L_103 uX10_first (kX10_first _ _ _ _ _ e2) h2 (by decide) (fun _ => rfl) rfl rfl (Nat.le_of_ble_eq_true rfl) ?_
  refine gl_eqT C (tgt := 1458) dL_law_906 rfl ?_
  exact k
set_option maxHeartbeats 4000000 in
set_option maxRecDepth 100000 in
theorem lc_21 {p : Program} {l : Launch} {e : Env} {s : State} {m : MethodId} {below : List Frame} {meth : Method} {c : Code} {b L : Nat} {xs : Nat → Int32} {D : va_G} {tc : Nat → ClassId} {ta tb : Nat} {Q : State → Prop} (C : gl_C p s m meth c b L xs D tc ta tb) {wc wm wc1 wm1 : ab_W} {r : Int32} {i : Nat} (hi : i + 6 ≤ L) (e1 : sX9_best 0 (xs (i + 1)) (xs (i + 2)) (xs (i + 3)) wc = some (r, wc1)) (e2 : sX10_best 0 (xs (i + 1)) (xs (i + 2)) (xs (i + 3)) wm = some (r, wm1)) (h1 : wc1.length = 65) (h2 : wm1.length = 13) (k : gl_G p l e s m below meth c b D tc ta tb Q 1458 [some (.ref b), some (.ref s.heap.size), some (.ref (s.heap.size + 65)), some (.int (nI i))] [] wc1 wm1) : gl_G p l e s m below meth c b D tc ta tb Q 911 [some (.ref b), some (.ref s.heap.size), some (.ref (s.heap.size + 65)), some (.int (nI i))] [] wc wm := by
  refine gl_aload_n C (pc' := 912) (i := 1) rfl dL_law_911 rfl rfl ?_
  refine gl_arg C (pc' := 917) (k0 := 1) dL_law_912 dL_law_913 dL_law_914 dL_law_915 dL_law_916 rfl (by decide) hi (by decide) rfl rfl ?_
  refine gl_arg C (pc' := 922) (k0 := 2) dL_law_917 dL_law_918 dL_law_919 dL_law_920 dL_law_921 rfl (by decide) hi (by decide) rfl rfl ?_
  refine gl_arg C (pc' := 927) (k0 := 3) dL_law_922 dL_law_923 dL_law_924 dL_law_925 dL_law_926 rfl (by decide) hi (by decide) rfl rfl ?_
  refine gl_callx C (pc' := 930) rfl dL_law_927 wm_L_104 uX9_best (kX9_best _ _ _ _ _ _ _ e1) h1 (by decide) (fun _ => rfl) rfl rfl (Nat.le_of_ble_eq_true rfl) ?_
  refine gl_aload_n C (pc' := 931) (i := 2) rfl dL_law_930 rfl rfl ?_
  refine gl_arg C (pc' := 936) (k0 := 1) dL_law_931 dL_law_932 dL_law_933 dL_law_934 dL_law_935 rfl (by decide) hi (by decide) rfl rfl ?_
  refine gl_arg C (pc' := 941) (k0 := 2) dL_law_936 dL_law_937 dL_law_938 dL_law_939 dL_law_940 rfl (by decide) hi (by decide) rfl rfl ?_
  refine gl_arg C (pc' := 946) (k0 := 3) dL_law_941 dL_law_942 dL_law_943 dL_law_944 dL_law_945 rfl (by decide) hi (by decide) rfl rfl ?_
  refine gl_callm C (pc' := 949) rfl dL_law_946 wm_L_107 uX10_best (kX10_best _ _ _ _ _ _ _ e2) h2 (by decide) (fun _ => rfl) rfl rfl (Nat.le_of_ble_eq_true rfl) ?_
  refine gl_eqT C (tgt := 1458) dL_law_949 rfl ?_
  exact k
set_option maxHeartbeats 4000000 in
set_option maxRecDepth 100000 in
theorem lc_22 {p : Program} {l : Launch} {e : Env} {s : State} {m : MethodId} {below : List Frame} {meth : Method} {c : Code} {b L : Nat} {xs : Nat → Int32} {D : va_G} {tc : Nat → ClassId} {ta tb : Nat} {Q : State → Prop} (C : gl_C p s m meth c b L xs D tc ta tb) {wc wm wc1 wm1 : ab_W} {r : Int32} {i : Nat} (hi : i + 6 ≤ L) (e1 : sX9_fits 0 (xs (i + 1)) (xs (i + 2)) wc = some (r, wc1)) (e2 : sX10_fits 0 (xs (i + 1)) (xs (i + 2)) wm = some (r, wm1)) (h1 : wc1.length = 65) (h2 : wm1.length = 13) (k : gl_G p l e s m below meth c b D tc ta tb Q 1458 [some (.ref b), some (.ref s.heap.size), some (.ref (s.heap.size + 65)), some (.int (nI i))] [] wc1 wm1) : gl_G p l e s m below meth c b D tc ta tb Q 954 [some (.ref b), some (.ref s.heap.size), some (.ref (s.heap.size + 65)), some (.int (nI i))] [] wc wm := by
  refine gl_aload_n C (pc' := 955) (i := 1) rfl dL_law_954 rfl rfl ?_
  refine gl_arg C (pc' := 960) (k0 := 1) dL_law_955 dL_law_956 dL_law_957 dL_law_958 dL_law_959 rfl (by decide) hi (by decide) rfl rfl ?_
  refine gl_arg C (pc' := 965) (k0 := 2) dL_law_960 dL_law_961 dL_law_962 dL_law_963 dL_law_964 rfl (by decide) hi (by decide) rfl rfl ?_
  refine gl_callx C (pc' := 968) rfl dL_law_965 wm_L_108 uX9_fits (kX9_fits _ _ _ _ _ _ e1) h1 (by decide) (fun _ => rfl) rfl rfl (Nat.le_of_ble_eq_true rfl) ?_
  refine gl_aload_n C (pc' := 969) (i := 2) rfl dL_law_968 rfl rfl ?_
  refine gl_arg C (pc' := 974) (k0 := 1) dL_law_969 dL_law_970 dL_law_971 dL_law_972 dL_law_973 rfl (by decide) hi (by decide) rfl rfl ?_
  refine gl_arg C (pc' := 979) (k0 := 2) dL_law_974 dL_law_975 dL_law_976 dL_law_977 dL_law_978 rfl (by decide) hi (by decide) rfl rfl ?_
  refine gl_callm C (pc' := 982) rfl dL_law_979 wm_L_111 uX10_fits (kX10_fits _ _ _ _ _ _ e2) h2 (by decide) (fun _ => rfl) rfl rfl (Nat.le_of_ble_eq_true rfl) ?_
  refine gl_eqT C (tgt := 1458) dL_law_982 rfl ?_
  exact k
set_option maxHeartbeats 4000000 in
set_option maxRecDepth 100000 in
theorem lc_23 {p : Program} {l : Launch} {e : Env} {s : State} {m : MethodId} {below : List Frame} {meth : Method} {c : Code} {b L : Nat} {xs : Nat → Int32} {D : va_G} {tc : Nat → ClassId} {ta tb : Nat} {Q : State → Prop} (C : gl_C p s m meth c b L xs D tc ta tb) {wc wm wc1 wm1 : ab_W} {r : Int32} {i : Nat} (hi : i + 6 ≤ L) (e1 : sX9_owed 0 (xs (i + 1)) wc = some (r, wc1)) (e2 : sX10_owed 0 (xs (i + 1)) wm = some (r, wm1)) (h1 : wc1.length = 65) (h2 : wm1.length = 13) (k : gl_G p l e s m below meth c b D tc ta tb Q 1458 [some (.ref b), some (.ref s.heap.size), some (.ref (s.heap.size + 65)), some (.int (nI i))] [] wc1 wm1) : gl_G p l e s m below meth c b D tc ta tb Q 987 [some (.ref b), some (.ref s.heap.size), some (.ref (s.heap.size + 65)), some (.int (nI i))] [] wc wm := by
  refine gl_aload_n C (pc' := 988) (i := 1) rfl dL_law_987 rfl rfl ?_
  refine gl_arg C (pc' := 993) (k0 := 1) dL_law_988 dL_law_989 dL_law_990 dL_law_991 dL_law_992 rfl (by decide) hi (by decide) rfl rfl ?_
  refine gl_callx C (pc' := 996) rfl dL_law_993 wm_L_112 uX9_owed (kX9_owed _ _ _ _ _ e1) h1 (by decide) (fun _ => rfl) rfl rfl (Nat.le_of_ble_eq_true rfl) ?_
  refine gl_aload_n C (pc' := 997) (i := 2) rfl dL_law_996 rfl rfl ?_
  refine gl_arg C (pc' := 1002) (k0 := 1) dL_law_997 dL_law_998 dL_law_999 dL_law_1000 dL_law_1001 rfl (by decide) hi (by decide) rfl rfl ?_
  refine gl_callm C (pc' := 1005) rfl dL_law_1002 wm_L_115 uX10_owed (kX10_owed _ _ _ _ _ e2) h2 (by decide) (fun _ => rfl) rfl rfl (Nat.le_of_ble_eq_true rfl) ?_
  refine gl_eqT C (tgt := 1458) dL_law_1005 rfl ?_
  exact k
set_option maxHeartbeats 4000000 in
set_option maxRecDepth 100000 in
theorem lc_24 {p : Program} {l : Launch} {e : Env} {s : State} {m : MethodId} {below : List Frame} {meth : Method} {c : Code} {b L : Nat} {xs : Nat → Int32} {D : va_G} {tc : Nat → ClassId} {ta tb : Nat} {Q : State → Prop} (C : gl_C p s m meth c b L xs D tc ta tb) {wc wm wc1 wm1 : ab_W} {r : Int32} {i : Nat} (hi : i + 6 ≤ L) (e1 : sX9_debtor 0 (xs (i + 1)) wc = some (r, wc1)) (e2 : sX10_debtor 0 (xs (i + 1)) wm = some (r, wm1)) (h1 : wc1.length = 65) (h2 : wm1.length = 13) (k : gl_G p l e s m below meth c b D tc ta tb Q 1458 [some (.ref b), some (.ref s.heap.size), some (.ref (s.heap.size + 65)), some (.int (nI i))] [] wc1 wm1) : gl_G p l e s m below meth c b D tc ta tb Q 1010 [some (.ref b), some (.ref s.heap.size), some (.ref (s.heap.size + 65)), some (.int (nI i))] [] wc wm := by
  refine gl_aload_n C (pc' := 1011) (i := 1) rfl dL_law_1010 rfl rfl ?_
  refine gl_arg C (pc' := 1016) (k0 := 1) dL_law_1011 dL_law_1012 dL_law_1013 dL_law_1014 dL_law_1015 rfl (by decide) hi (by decide) rfl rfl ?_
  refine gl_callx C (pc' := 1019) rfl dL_law_1016 wm_L_116 uX9_debtor (kX9_debtor _ _ _ _ _ e1) h1 (by decide) (fun _ => rfl) rfl rfl (Nat.le_of_ble_eq_true rfl) ?_
  refine gl_aload_n C (pc' := 1020) (i := 2) rfl dL_law_1019 rfl rfl ?_
  refine gl_arg C (pc' := 1025) (k0 := 1) dL_law_1020 dL_law_1021 dL_law_1022 dL_law_1023 dL_law_1024 rfl (by decide) hi (by decide) rfl rfl ?_
  refine gl_callm C (pc' := 1028) rfl dL_law_1025 wm_L_119 uX10_debtor (kX10_debtor _ _ _ _ _ e2) h2 (by decide) (fun _ => rfl) rfl rfl (Nat.le_of_ble_eq_true rfl) ?_
  refine gl_eqT C (tgt := 1458) dL_law_1028 rfl ?_
  exact k
set_option maxHeartbeats 4000000 in
set_option maxRecDepth 100000 in
theorem lc_25 {p : Program} {l : Launch} {e : Env} {s : State} {m : MethodId} {below : List Frame} {meth : Method} {c : Code} {b L : Nat} {xs : Nat → Int32} {D : va_G} {tc : Nat → ClassId} {ta tb : Nat} {Q : State → Prop} (C : gl_C p s m meth c b L xs D tc ta tb) {wc wm wc1 wm1 : ab_W} {r : Int32} {i : Nat} (hi : i + 6 ≤ L) (e1 : sX9_odds 0 (xs (i + 1)) (xs (i + 2)) wc = some (r, wc1)) (e2 : sX10_odds 0 (xs (i + 1)) (xs (i + 2)) wm = some (r, wm1)) (h1 : wc1.length = 65) (h2 : wm1.length = 13) (k : gl_G p l e s m below meth c b D tc ta tb Q 1458 [some (.ref b), some (.ref s.heap.size), some (.ref (s.heap.size + 65)), some (.int (nI i))] [] wc1 wm1) : gl_G p l e s m below meth c b D tc ta tb Q 1033 [some (.ref b), some (.ref s.heap.size), some (.ref (s.heap.size + 65)), some (.int (nI i))] [] wc wm := by
  refine gl_aload_n C (pc' := 1034) (i := 1) rfl dL_law_1033 rfl rfl ?_
  refine gl_arg C (pc' := 1039) (k0 := 1) dL_law_1034 dL_law_1035 dL_law_1036 dL_law_1037 dL_law_1038 rfl (by decide) hi (by decide) rfl rfl ?_
  refine gl_arg C (pc' := 1044) (k0 := 2) dL_law_1039 dL_law_1040 dL_law_1041 dL_law_1042 dL_law_1043 rfl (by decide) hi (by decide) rfl rfl ?_
  refine gl_callx C (pc' := 1047) rfl dL_law_1044 wm_L_120 uX9_odds (kX9_odds _ _ _ _ _ _ e1) h1 (by decide) (fun _ => rfl) rfl rfl (Nat.le_of_ble_eq_true rfl) ?_
  refine gl_aload_n C (pc' := 1048) (i := 2) rfl dL_law_1047 rfl rfl ?_
  refine gl_arg C (pc' := 1053) (k0 := 1) dL_law_1048 dL_law_1049 dL_law_1050 dL_law_1051 dL_law_1052 rfl (by decide) hi (by decide) rfl rfl ?_
  refine gl_arg C (pc' := 1058) (k0 := 2) dL_law_1053 dL_law_1054 dL_law_1055 dL_law_1056 dL_law_1057 rfl (by decide) hi (by decide) rfl rfl ?_
  refine gl_callm C (pc' := 1061) rfl dL_law_1058 wm_L_123 uX10_odds (kX10_odds _ _ _ _ _ _ e2) h2 (by decide) (fun _ => rfl) rfl rfl (Nat.le_of_ble_eq_true rfl) ?_
  refine gl_eqT C (tgt := 1458) dL_law_1061 rfl ?_
  exact k
set_option maxHeartbeats 4000000 in
set_option maxRecDepth 100000 in
theorem lc_26 {p : Program} {l : Launch} {e : Env} {s : State} {m : MethodId} {below : List Frame} {meth : Method} {c : Code} {b L : Nat} {xs : Nat → Int32} {D : va_G} {tc : Nat → ClassId} {ta tb : Nat} {Q : State → Prop} (C : gl_C p s m meth c b L xs D tc ta tb) {wc wm wc1 wm1 : ab_W} {r : Int32} {i : Nat} (hi : i + 6 ≤ L) (e1 : sX9_seed 0 (xs (i + 1)) wc = some (r, wc1)) (e2 : sX10_seed 0 (xs (i + 1)) wm = some (r, wm1)) (h1 : wc1.length = 65) (h2 : wm1.length = 13) (k : gl_G p l e s m below meth c b D tc ta tb Q 1458 [some (.ref b), some (.ref s.heap.size), some (.ref (s.heap.size + 65)), some (.int (nI i))] [] wc1 wm1) : gl_G p l e s m below meth c b D tc ta tb Q 1066 [some (.ref b), some (.ref s.heap.size), some (.ref (s.heap.size + 65)), some (.int (nI i))] [] wc wm := by
  refine gl_aload_n C (pc' := 1067) (i := 1) rfl dL_law_1066 rfl rfl ?_
  refine gl_arg C (pc' := 1072) (k0 := 1) dL_law_1067 dL_law_1068 dL_law_1069 dL_law_1070 dL_law_1071 rfl (by decide) hi (by decide) rfl rfl ?_
  refine gl_callx C (pc' := 1075) rfl dL_law_1072 wm_L_124 uX9_seed (kX9_seed _ _ _ _ _ e1) h1 (by decide) (fun _ => rfl) rfl rfl (Nat.le_of_ble_eq_true rfl) ?_
  refine gl_aload_n C (pc' := 1076) (i := 2) rfl dL_law_1075 rfl rfl ?_
  refine gl_arg C (pc' := 1081) (k0 := 1) dL_law_1076 dL_law_1077 dL_law_1078 dL_law_1079 dL_law_1080 rfl (by decide) hi (by decide) rfl rfl ?_
  refine gl_callm C (pc' := 1084) rfl dL_law_1081 wm_L_127 uX10_seed (kX10_seed _ _ _ _ _ e2) h2 (by decide) (fun _ => rfl) rfl rfl (Nat.le_of_ble_eq_true rfl) ?_
  refine gl_eqT C (tgt := 1458) dL_law_1084 rfl ?_
  exact k
set_option maxHeartbeats 4000000 in
set_option maxRecDepth 100000 in
theorem lc_27 {p : Program} {l : Launch} {e : Env} {s : State} {m : MethodId} {below : List Frame} {meth : Method} {c : Code} {b L : Nat} {xs : Nat → Int32} {D : va_G} {tc : Nat → ClassId} {ta tb : Nat} {Q : State → Prop} (C : gl_C p s m meth c b L xs D tc ta tb) {wc wm wc1 wm1 : ab_W} {r : Int32} {i : Nat} (hi : i + 6 ≤ L) (e1 : sX9_voice 0 (xs (i + 1)) (xs (i + 2)) (xs (i + 3)) wc = some (r, wc1)) (e2 : sX10_voice 0 (xs (i + 1)) (xs (i + 2)) (xs (i + 3)) wm = some (r, wm1)) (h1 : wc1.length = 65) (h2 : wm1.length = 13) (k : gl_G p l e s m below meth c b D tc ta tb Q 1458 [some (.ref b), some (.ref s.heap.size), some (.ref (s.heap.size + 65)), some (.int (nI i))] [] wc1 wm1) : gl_G p l e s m below meth c b D tc ta tb Q 1089 [some (.ref b), some (.ref s.heap.size), some (.ref (s.heap.size + 65)), some (.int (nI i))] [] wc wm := by
  refine gl_aload_n C (pc' := 1090) (i := 1) rfl dL_law_1089 rfl rfl ?_
  refine gl_arg C (pc' := 1095) (k0 := 1) dL_law_1090 dL_law_1091 dL_law_1092 dL_law_1093 dL_law_1094 rfl (by decide) hi (by decide) rfl rfl ?_
  refine gl_arg C (pc' := 1100) (k0 := 2) dL_law_1095 dL_law_1096 dL_law_1097 dL_law_1098 dL_law_1099 rfl (by decide) hi (by decide) rfl rfl ?_
  refine gl_arg C (pc' := 1105) (k0 := 3) dL_law_1100 dL_law_1101 dL_law_1102 dL_law_1103 dL_law_1104 rfl (by decide) hi (by decide) rfl rfl ?_
  refine gl_callx C (pc' := 1108) rfl dL_law_1105 wm_L_128 uX9_voice (kX9_voice _ _ _ _ _ _ _ e1) h1 (by decide) (fun _ => rfl) rfl rfl (Nat.le_of_ble_eq_true rfl) ?_
  refine gl_aload_n C (pc' := 1109) (i := 2) rfl dL_law_1108 rfl rfl ?_
  refine gl_arg C (pc' := 1114) (k0 := 1) dL_law_1109 dL_law_1110 dL_law_1111 dL_law_1112 dL_law_1113 rfl (by decide) hi (by decide) rfl rfl ?_
  refine gl_arg C (pc' := 1119) (k0 := 2) dL_law_1114 dL_law_1115 dL_law_1116 dL_law_1117 dL_law_1118 rfl (by decide) hi (by decide) rfl rfl ?_
  refine gl_arg C (pc' := 1124) (k0 := 3) dL_law_1119 dL_law_1120 dL_law_1121 dL_law_1122 dL_law_1123 rfl (by decide) hi (by decide) rfl rfl ?_
  refine gl_callm C (pc' := 1127) rfl dL_law_1124 wm_L_131 uX10_voice (kX10_voice _ _ _ _ _ _ _ e2) h2 (by decide) (fun _ => rfl) rfl rfl (Nat.le_of_ble_eq_true rfl) ?_
  refine gl_eqT C (tgt := 1458) dL_law_1127 rfl ?_
  exact k
set_option maxHeartbeats 4000000 in
set_option maxRecDepth 100000 in
theorem lc_28 {p : Program} {l : Launch} {e : Env} {s : State} {m : MethodId} {below : List Frame} {meth : Method} {c : Code} {b L : Nat} {xs : Nat → Int32} {D : va_G} {tc : Nat → ClassId} {ta tb : Nat} {Q : State → Prop} (C : gl_C p s m meth c b L xs D tc ta tb) {wc wm wc1 wm1 : ab_W} {r : Int32} {i : Nat} (hi : i + 6 ≤ L) (e1 : sX9_trace 0 (xs (i + 1)) wc = some (r, wc1)) (e2 : sX10_trace 0 (xs (i + 1)) wm = some (r, wm1)) (h1 : wc1.length = 65) (h2 : wm1.length = 13) (k : gl_G p l e s m below meth c b D tc ta tb Q 1458 [some (.ref b), some (.ref s.heap.size), some (.ref (s.heap.size + 65)), some (.int (nI i))] [] wc1 wm1) : gl_G p l e s m below meth c b D tc ta tb Q 1132 [some (.ref b), some (.ref s.heap.size), some (.ref (s.heap.size + 65)), some (.int (nI i))] [] wc wm := by
  refine gl_aload_n C (pc' := 1133) (i := 1) rfl dL_law_1132 rfl rfl ?_
  refine gl_arg C (pc' := 1138) (k0 := 1) dL_law_1133 dL_law_1134 dL_law_1135 dL_law_1136 dL_law_1137 rfl (by decide) hi (by decide) rfl rfl ?_
  refine gl_callx C (pc' := 1141) rfl dL_law_1138 wm_L_132 uX9_trace (kX9_trace _ _ _ _ _ e1) h1 (by decide) (fun _ => rfl) rfl rfl (Nat.le_of_ble_eq_true rfl) ?_
  refine gl_aload_n C (pc' := 1142) (i := 2) rfl dL_law_1141 rfl rfl ?_
  refine gl_arg C (pc' := 1147) (k0 := 1) dL_law_1142 dL_law_1143 dL_law_1144 dL_law_1145 dL_law_1146 rfl (by decide) hi (by decide) rfl rfl ?_
  refine gl_callm C (pc' := 1150) rfl dL_law_1147 wm_L_135 uX10_trace (kX10_trace _ _ _ _ _ e2) h2 (by decide) (fun _ => rfl) rfl rfl (Nat.le_of_ble_eq_true rfl) ?_
  refine gl_eqT C (tgt := 1458) dL_law_1150 rfl ?_
  exact k
set_option maxHeartbeats 4000000 in
set_option maxRecDepth 100000 in
theorem lc_29 {p : Program} {l : Launch} {e : Env} {s : State} {m : MethodId} {below : List Frame} {meth : Method} {c : Code} {b L : Nat} {xs : Nat → Int32} {D : va_G} {tc : Nat → ClassId} {ta tb : Nat} {Q : State → Prop} (C : gl_C p s m meth c b L xs D tc ta tb) {wc wm wc1 wm1 : ab_W} {r : Int32} {i : Nat} (hi : i + 6 ≤ L) (e1 : sX9_sheet 0 (xs (i + 1)) (xs (i + 2)) (xs (i + 3)) wc = some (r, wc1)) (e2 : sX10_sheet 0 (xs (i + 1)) (xs (i + 2)) (xs (i + 3)) wm = some (r, wm1)) (h1 : wc1.length = 65) (h2 : wm1.length = 13) (k : gl_G p l e s m below meth c b D tc ta tb Q 1458 [some (.ref b), some (.ref s.heap.size), some (.ref (s.heap.size + 65)), some (.int (nI i))] [] wc1 wm1) : gl_G p l e s m below meth c b D tc ta tb Q 1155 [some (.ref b), some (.ref s.heap.size), some (.ref (s.heap.size + 65)), some (.int (nI i))] [] wc wm := by
  refine gl_aload_n C (pc' := 1156) (i := 1) rfl dL_law_1155 rfl rfl ?_
  refine gl_arg C (pc' := 1161) (k0 := 1) dL_law_1156 dL_law_1157 dL_law_1158 dL_law_1159 dL_law_1160 rfl (by decide) hi (by decide) rfl rfl ?_
  refine gl_arg C (pc' := 1166) (k0 := 2) dL_law_1161 dL_law_1162 dL_law_1163 dL_law_1164 dL_law_1165 rfl (by decide) hi (by decide) rfl rfl ?_
  refine gl_arg C (pc' := 1171) (k0 := 3) dL_law_1166 dL_law_1167 dL_law_1168 dL_law_1169 dL_law_1170 rfl (by decide) hi (by decide) rfl rfl ?_
  refine gl_callx C (pc' := 1174) rfl dL_law_1171 wm_L_136 uX9_sheet (kX9_sheet _ _ _ _ _ _ _ e1) h1 (by decide) (fun _ => rfl) rfl rfl (Nat.le_of_ble_eq_true rfl) ?_
  refine gl_aload_n C (pc' := 1175) (i := 2) rfl dL_law_1174 rfl rfl ?_
  refine gl_arg C (pc' := 1180) (k0 := 1) dL_law_1175 dL_law_1176 dL_law_1177 dL_law_1178 dL_law_1179 rfl (by decide) hi (by decide) rfl rfl ?_
  refine gl_arg C (pc' := 1185) (k0 := 2) dL_law_1180 dL_law_1181 dL_law_1182 dL_law_1183 dL_law_1184 rfl (by decide) hi (by decide) rfl rfl ?_
  refine gl_arg C (pc' := 1190) (k0 := 3) dL_law_1185 dL_law_1186 dL_law_1187 dL_law_1188 dL_law_1189 rfl (by decide) hi (by decide) rfl rfl ?_
  refine gl_callm C (pc' := 1193) rfl dL_law_1190 wm_L_139 uX10_sheet (kX10_sheet _ _ _ _ _ _ _ e2) h2 (by decide) (fun _ => rfl) rfl rfl (Nat.le_of_ble_eq_true rfl) ?_
  refine gl_eqT C (tgt := 1458) dL_law_1193 rfl ?_
  exact k
set_option maxHeartbeats 4000000 in
set_option maxRecDepth 100000 in
theorem lc_30 {p : Program} {l : Launch} {e : Env} {s : State} {m : MethodId} {below : List Frame} {meth : Method} {c : Code} {b L : Nat} {xs : Nat → Int32} {D : va_G} {tc : Nat → ClassId} {ta tb : Nat} {Q : State → Prop} (C : gl_C p s m meth c b L xs D tc ta tb) {wc wm wc1 wm1 : ab_W} {r : Int32} {i : Nat} (hi : i + 6 ≤ L) (e1 : sX9_put 0 (xs (i + 1)) (xs (i + 2)) (xs (i + 3)) wc = some (r, wc1)) (e2 : sX10_put 0 (xs (i + 1)) (xs (i + 2)) (xs (i + 3)) wm = some (r, wm1)) (h1 : wc1.length = 65) (h2 : wm1.length = 13) (k : gl_G p l e s m below meth c b D tc ta tb Q 1458 [some (.ref b), some (.ref s.heap.size), some (.ref (s.heap.size + 65)), some (.int (nI i))] [] wc1 wm1) : gl_G p l e s m below meth c b D tc ta tb Q 1198 [some (.ref b), some (.ref s.heap.size), some (.ref (s.heap.size + 65)), some (.int (nI i))] [] wc wm := by
  refine gl_aload_n C (pc' := 1199) (i := 1) rfl dL_law_1198 rfl rfl ?_
  refine gl_arg C (pc' := 1204) (k0 := 1) dL_law_1199 dL_law_1200 dL_law_1201 dL_law_1202 dL_law_1203 rfl (by decide) hi (by decide) rfl rfl ?_
  refine gl_arg C (pc' := 1209) (k0 := 2) dL_law_1204 dL_law_1205 dL_law_1206 dL_law_1207 dL_law_1208 rfl (by decide) hi (by decide) rfl rfl ?_
  refine gl_arg C (pc' := 1214) (k0 := 3) dL_law_1209 dL_law_1210 dL_law_1211 dL_law_1212 dL_law_1213 rfl (by decide) hi (by decide) rfl rfl ?_
  refine gl_callx C (pc' := 1217) rfl dL_law_1214 wm_L_140 uX9_put (kX9_put _ _ _ _ _ _ _ e1) h1 (by decide) (fun _ => rfl) rfl rfl (Nat.le_of_ble_eq_true rfl) ?_
  refine gl_aload_n C (pc' := 1218) (i := 2) rfl dL_law_1217 rfl rfl ?_
  refine gl_arg C (pc' := 1223) (k0 := 1) dL_law_1218 dL_law_1219 dL_law_1220 dL_law_1221 dL_law_1222 rfl (by decide) hi (by decide) rfl rfl ?_
  refine gl_arg C (pc' := 1228) (k0 := 2) dL_law_1223 dL_law_1224 dL_law_1225 dL_law_1226 dL_law_1227 rfl (by decide) hi (by decide) rfl rfl ?_
  refine gl_arg C (pc' := 1233) (k0 := 3) dL_law_1228 dL_law_1229 dL_law_1230 dL_law_1231 dL_law_1232 rfl (by decide) hi (by decide) rfl rfl ?_
  refine gl_callm C (pc' := 1236) rfl dL_law_1233 wm_L_143 uX10_put (kX10_put _ _ _ _ _ _ _ e2) h2 (by decide) (fun _ => rfl) rfl rfl (Nat.le_of_ble_eq_true rfl) ?_
  refine gl_eqT C (tgt := 1458) dL_law_1236 rfl ?_
  exact k
set_option maxHeartbeats 4000000 in
set_option maxRecDepth 100000 in
theorem lc_31 {p : Program} {l : Launch} {e : Env} {s : State} {m : MethodId} {below : List Frame} {meth : Method} {c : Code} {b L : Nat} {xs : Nat → Int32} {D : va_G} {tc : Nat → ClassId} {ta tb : Nat} {Q : State → Prop} (C : gl_C p s m meth c b L xs D tc ta tb) {wc wm wc1 wm1 : ab_W} {r : Int32} {i : Nat} (hi : i + 6 ≤ L) (e1 : sX9_move 0 (xs (i + 1)) (xs (i + 2)) (xs (i + 3)) (xs (i + 4)) (xs (i + 5)) wc = some (r, wc1)) (e2 : sX10_move 0 (xs (i + 1)) (xs (i + 2)) (xs (i + 3)) (xs (i + 4)) (xs (i + 5)) wm = some (r, wm1)) (h1 : wc1.length = 65) (h2 : wm1.length = 13) (k : gl_G p l e s m below meth c b D tc ta tb Q 1458 [some (.ref b), some (.ref s.heap.size), some (.ref (s.heap.size + 65)), some (.int (nI i))] [] wc1 wm1) : gl_G p l e s m below meth c b D tc ta tb Q 1241 [some (.ref b), some (.ref s.heap.size), some (.ref (s.heap.size + 65)), some (.int (nI i))] [] wc wm := by
  refine gl_aload_n C (pc' := 1242) (i := 1) rfl dL_law_1241 rfl rfl ?_
  refine gl_arg C (pc' := 1247) (k0 := 1) dL_law_1242 dL_law_1243 dL_law_1244 dL_law_1245 dL_law_1246 rfl (by decide) hi (by decide) rfl rfl ?_
  refine gl_arg C (pc' := 1252) (k0 := 2) dL_law_1247 dL_law_1248 dL_law_1249 dL_law_1250 dL_law_1251 rfl (by decide) hi (by decide) rfl rfl ?_
  refine gl_arg C (pc' := 1257) (k0 := 3) dL_law_1252 dL_law_1253 dL_law_1254 dL_law_1255 dL_law_1256 rfl (by decide) hi (by decide) rfl rfl ?_
  refine gl_arg C (pc' := 1262) (k0 := 4) dL_law_1257 dL_law_1258 dL_law_1259 dL_law_1260 dL_law_1261 rfl (by decide) hi (by decide) rfl rfl ?_
  refine gl_arg C (pc' := 1267) (k0 := 5) dL_law_1262 dL_law_1263 dL_law_1264 dL_law_1265 dL_law_1266 rfl (by decide) hi (by decide) rfl rfl ?_
  refine gl_callx C (pc' := 1270) rfl dL_law_1267 wm_L_144 uX9_move (kX9_move _ _ _ _ _ _ _ _ _ e1) h1 (by decide) (fun _ => rfl) rfl rfl (Nat.le_of_ble_eq_true rfl) ?_
  refine gl_aload_n C (pc' := 1271) (i := 2) rfl dL_law_1270 rfl rfl ?_
  refine gl_arg C (pc' := 1276) (k0 := 1) dL_law_1271 dL_law_1272 dL_law_1273 dL_law_1274 dL_law_1275 rfl (by decide) hi (by decide) rfl rfl ?_
  refine gl_arg C (pc' := 1281) (k0 := 2) dL_law_1276 dL_law_1277 dL_law_1278 dL_law_1279 dL_law_1280 rfl (by decide) hi (by decide) rfl rfl ?_
  refine gl_arg C (pc' := 1286) (k0 := 3) dL_law_1281 dL_law_1282 dL_law_1283 dL_law_1284 dL_law_1285 rfl (by decide) hi (by decide) rfl rfl ?_
  refine gl_arg C (pc' := 1291) (k0 := 4) dL_law_1286 dL_law_1287 dL_law_1288 dL_law_1289 dL_law_1290 rfl (by decide) hi (by decide) rfl rfl ?_
  refine gl_arg C (pc' := 1296) (k0 := 5) dL_law_1291 dL_law_1292 dL_law_1293 dL_law_1294 dL_law_1295 rfl (by decide) hi (by decide) rfl rfl ?_
  refine gl_callm C (pc' := 1299) rfl dL_law_1296 wm_L_148 uX10_move (kX10_move _ _ _ _ _ _ _ _ _ e2) h2 (by decide) (fun _ => rfl) rfl rfl (Nat.le_of_ble_eq_true rfl) ?_
  refine gl_eqT C (tgt := 1458) dL_law_1299 rfl ?_
  exact k
set_option maxHeartbeats 4000000 in
set_option maxRecDepth 100000 in
theorem lc_32 {p : Program} {l : Launch} {e : Env} {s : State} {m : MethodId} {below : List Frame} {meth : Method} {c : Code} {b L : Nat} {xs : Nat → Int32} {D : va_G} {tc : Nat → ClassId} {ta tb : Nat} {Q : State → Prop} (C : gl_C p s m meth c b L xs D tc ta tb) {wc wm wc1 wm1 : ab_W} {r : Int32} {i : Nat} (hi : i + 6 ≤ L) (e1 : sX9_debts 0 (xs (i + 1)) wc = some (r, wc1)) (e2 : sX10_debts 0 (xs (i + 1)) wm = some (r, wm1)) (h1 : wc1.length = 65) (h2 : wm1.length = 13) (k : gl_G p l e s m below meth c b D tc ta tb Q 1458 [some (.ref b), some (.ref s.heap.size), some (.ref (s.heap.size + 65)), some (.int (nI i))] [] wc1 wm1) : gl_G p l e s m below meth c b D tc ta tb Q 1304 [some (.ref b), some (.ref s.heap.size), some (.ref (s.heap.size + 65)), some (.int (nI i))] [] wc wm := by
  refine gl_aload_n C (pc' := 1305) (i := 1) rfl dL_law_1304 rfl rfl ?_
  refine gl_arg C (pc' := 1310) (k0 := 1) dL_law_1305 dL_law_1306 dL_law_1307 dL_law_1308 dL_law_1309 rfl (by decide) hi (by decide) rfl rfl ?_
  refine gl_callx C (pc' := 1313) rfl dL_law_1310 wm_L_149 uX9_debts (kX9_debts _ _ _ _ _ e1) h1 (by decide) (fun _ => rfl) rfl rfl (Nat.le_of_ble_eq_true rfl) ?_
  refine gl_aload_n C (pc' := 1314) (i := 2) rfl dL_law_1313 rfl rfl ?_
  refine gl_arg C (pc' := 1319) (k0 := 1) dL_law_1314 dL_law_1315 dL_law_1316 dL_law_1317 dL_law_1318 rfl (by decide) hi (by decide) rfl rfl ?_
  refine gl_callm C (pc' := 1322) rfl dL_law_1319 wm_L_152 uX10_debts (kX10_debts _ _ _ _ _ e2) h2 (by decide) (fun _ => rfl) rfl rfl (Nat.le_of_ble_eq_true rfl) ?_
  refine gl_eqT C (tgt := 1458) dL_law_1322 rfl ?_
  exact k
set_option maxHeartbeats 4000000 in
set_option maxRecDepth 100000 in
theorem lc_33 {p : Program} {l : Launch} {e : Env} {s : State} {m : MethodId} {below : List Frame} {meth : Method} {c : Code} {b L : Nat} {xs : Nat → Int32} {D : va_G} {tc : Nat → ClassId} {ta tb : Nat} {Q : State → Prop} (C : gl_C p s m meth c b L xs D tc ta tb) {wc wm wc1 wm1 : ab_W} {r : Int32} {i : Nat} (hi : i + 6 ≤ L) (e1 : sX9_judge 0 (xs (i + 1)) wc = some (r, wc1)) (e2 : sX10_judge 0 (xs (i + 1)) wm = some (r, wm1)) (h1 : wc1.length = 65) (h2 : wm1.length = 13) (k : gl_G p l e s m below meth c b D tc ta tb Q 1458 [some (.ref b), some (.ref s.heap.size), some (.ref (s.heap.size + 65)), some (.int (nI i))] [] wc1 wm1) : gl_G p l e s m below meth c b D tc ta tb Q 1327 [some (.ref b), some (.ref s.heap.size), some (.ref (s.heap.size + 65)), some (.int (nI i))] [] wc wm := by
  refine gl_aload_n C (pc' := 1328) (i := 1) rfl dL_law_1327 rfl rfl ?_
  refine gl_arg C (pc' := 1333) (k0 := 1) dL_law_1328 dL_law_1329 dL_law_1330 dL_law_1331 dL_law_1332 rfl (by decide) hi (by decide) rfl rfl ?_
  refine gl_callx C (pc' := 1336) rfl dL_law_1333 wm_L_153 uX9_judge (kX9_judge _ _ _ _ _ e1) h1 (by decide) (fun _ => rfl) rfl rfl (Nat.le_of_ble_eq_true rfl) ?_
  refine gl_aload_n C (pc' := 1337) (i := 2) rfl dL_law_1336 rfl rfl ?_
  refine gl_arg C (pc' := 1342) (k0 := 1) dL_law_1337 dL_law_1338 dL_law_1339 dL_law_1340 dL_law_1341 rfl (by decide) hi (by decide) rfl rfl ?_
  refine gl_callm C (pc' := 1345) rfl dL_law_1342 wm_L_156 uX10_judge (kX10_judge _ _ _ _ _ e2) h2 (by decide) (fun _ => rfl) rfl rfl (Nat.le_of_ble_eq_true rfl) ?_
  refine gl_eqT C (tgt := 1458) dL_law_1345 rfl ?_
  exact k
set_option maxHeartbeats 4000000 in
set_option maxRecDepth 100000 in
theorem lc_34 {p : Program} {l : Launch} {e : Env} {s : State} {m : MethodId} {below : List Frame} {meth : Method} {c : Code} {b L : Nat} {xs : Nat → Int32} {D : va_G} {tc : Nat → ClassId} {ta tb : Nat} {Q : State → Prop} (C : gl_C p s m meth c b L xs D tc ta tb) {wc wm wc1 wm1 : ab_W} {r : Int32} {i : Nat} (hi : i + 6 ≤ L) (e1 : sX9_image 0  wc = some (r, wc1)) (e2 : sX10_image 0  wm = some (r, wm1)) (h1 : wc1.length = 65) (h2 : wm1.length = 13) (k : gl_G p l e s m below meth c b D tc ta tb Q 1458 [some (.ref b), some (.ref s.heap.size), some (.ref (s.heap.size + 65)), some (.int (nI i))] [] wc1 wm1) : gl_G p l e s m below meth c b D tc ta tb Q 1350 [some (.ref b), some (.ref s.heap.size), some (.ref (s.heap.size + 65)), some (.int (nI i))] [] wc wm := by
  refine gl_aload_n C (pc' := 1351) (i := 1) rfl dL_law_1350 rfl rfl ?_
  refine gl_callx C (pc' := 1354) rfl dL_law_1351 wm_L_157 uX9_image (kX9_image _ _ _ _ e1) h1 (by decide) (fun _ => rfl) rfl rfl (Nat.le_of_ble_eq_true rfl) ?_
  refine gl_aload_n C (pc' := 1355) (i := 2) rfl dL_law_1354 rfl rfl ?_
  refine gl_callm C (pc' := 1358) rfl dL_law_1355 wm_L_161 uX10_image (kX10_image _ _ _ _ e2) h2 (by decide) (fun _ => rfl) rfl rfl (Nat.le_of_ble_eq_true rfl) ?_
  refine gl_eqT C (tgt := 1458) dL_law_1358 rfl ?_
  exact k
set_option maxHeartbeats 4000000 in
set_option maxRecDepth 100000 in
theorem lc_35 {p : Program} {l : Launch} {e : Env} {s : State} {m : MethodId} {below : List Frame} {meth : Method} {c : Code} {b L : Nat} {xs : Nat → Int32} {D : va_G} {tc : Nat → ClassId} {ta tb : Nat} {Q : State → Prop} (C : gl_C p s m meth c b L xs D tc ta tb) {wc wm wc1 wm1 : ab_W} {r : Int32} {i : Nat} (hi : i + 6 ≤ L) (e1 : sX9_restore 0  wc = some (r, wc1)) (e2 : sX10_restore 0  wm = some (r, wm1)) (h1 : wc1.length = 65) (h2 : wm1.length = 13) (k : gl_G p l e s m below meth c b D tc ta tb Q 1458 [some (.ref b), some (.ref s.heap.size), some (.ref (s.heap.size + 65)), some (.int (nI i))] [] wc1 wm1) : gl_G p l e s m below meth c b D tc ta tb Q 1363 [some (.ref b), some (.ref s.heap.size), some (.ref (s.heap.size + 65)), some (.int (nI i))] [] wc wm := by
  refine gl_aload_n C (pc' := 1364) (i := 1) rfl dL_law_1363 rfl rfl ?_
  refine gl_callx C (pc' := 1367) rfl dL_law_1364 wm_L_162 uX9_restore (kX9_restore _ _ _ _ e1) h1 (by decide) (fun _ => rfl) rfl rfl (Nat.le_of_ble_eq_true rfl) ?_
  refine gl_aload_n C (pc' := 1368) (i := 2) rfl dL_law_1367 rfl rfl ?_
  refine gl_callm C (pc' := 1371) rfl dL_law_1368 wm_L_165 uX10_restore (kX10_restore _ _ _ _ e2) h2 (by decide) (fun _ => rfl) rfl rfl (Nat.le_of_ble_eq_true rfl) ?_
  refine gl_eqT C (tgt := 1458) dL_law_1371 rfl ?_
  exact k
set_option maxHeartbeats 4000000 in
set_option maxRecDepth 100000 in
theorem lc_36 {p : Program} {l : Launch} {e : Env} {s : State} {m : MethodId} {below : List Frame} {meth : Method} {c : Code} {b L : Nat} {xs : Nat → Int32} {D : va_G} {tc : Nat → ClassId} {ta tb : Nat} {Q : State → Prop} (C : gl_C p s m meth c b L xs D tc ta tb) {wc wm wc1 wm1 : ab_W} {r : Int32} {i : Nat} (hi : i + 6 ≤ L) (e1 : sX9_tell 0 (xs (i + 1)) wc = some (r, wc1)) (e2 : sX10_tell 0 (xs (i + 1)) wm = some (r, wm1)) (h1 : wc1.length = 65) (h2 : wm1.length = 13) (k : gl_G p l e s m below meth c b D tc ta tb Q 1458 [some (.ref b), some (.ref s.heap.size), some (.ref (s.heap.size + 65)), some (.int (nI i))] [] wc1 wm1) : gl_G p l e s m below meth c b D tc ta tb Q 1376 [some (.ref b), some (.ref s.heap.size), some (.ref (s.heap.size + 65)), some (.int (nI i))] [] wc wm := by
  refine gl_aload_n C (pc' := 1377) (i := 1) rfl dL_law_1376 rfl rfl ?_
  refine gl_arg C (pc' := 1382) (k0 := 1) dL_law_1377 dL_law_1378 dL_law_1379 dL_law_1380 dL_law_1381 rfl (by decide) hi (by decide) rfl rfl ?_
  refine gl_callx C (pc' := 1385) rfl dL_law_1382 wm_L_166 uX9_tell (kX9_tell _ _ _ _ _ e1) h1 (by decide) (fun _ => rfl) rfl rfl (Nat.le_of_ble_eq_true rfl) ?_
  refine gl_aload_n C (pc' := 1386) (i := 2) rfl dL_law_1385 rfl rfl ?_
  refine gl_arg C (pc' := 1391) (k0 := 1) dL_law_1386 dL_law_1387 dL_law_1388 dL_law_1389 dL_law_1390 rfl (by decide) hi (by decide) rfl rfl ?_
  refine gl_callm C (pc' := 1394) rfl dL_law_1391 wm_L_169 uX10_tell (kX10_tell _ _ _ _ _ e2) h2 (by decide) (fun _ => rfl) rfl rfl (Nat.le_of_ble_eq_true rfl) ?_
  refine gl_eqT C (tgt := 1458) dL_law_1394 rfl ?_
  exact k
set_option maxHeartbeats 4000000 in
set_option maxRecDepth 100000 in
theorem lc_37 {p : Program} {l : Launch} {e : Env} {s : State} {m : MethodId} {below : List Frame} {meth : Method} {c : Code} {b L : Nat} {xs : Nat → Int32} {D : va_G} {tc : Nat → ClassId} {ta tb : Nat} {Q : State → Prop} (C : gl_C p s m meth c b L xs D tc ta tb) {wc wm wc1 wm1 : ab_W} {r : Int32} {i : Nat} (hi : i + 6 ≤ L) (e1 : sX9_check 0  wc = some (r, wc1)) (e2 : sX10_check 0  wm = some (r, wm1)) (h1 : wc1.length = 65) (h2 : wm1.length = 13) (k : gl_G p l e s m below meth c b D tc ta tb Q 1458 [some (.ref b), some (.ref s.heap.size), some (.ref (s.heap.size + 65)), some (.int (nI i))] [] wc1 wm1) : gl_G p l e s m below meth c b D tc ta tb Q 1399 [some (.ref b), some (.ref s.heap.size), some (.ref (s.heap.size + 65)), some (.int (nI i))] [] wc wm := by
  refine gl_aload_n C (pc' := 1400) (i := 1) rfl dL_law_1399 rfl rfl ?_
  refine gl_callx C (pc' := 1403) rfl dL_law_1400 wm_L_170 uX9_check (kX9_check _ _ _ _ e1) h1 (by decide) (fun _ => rfl) rfl rfl (Nat.le_of_ble_eq_true rfl) ?_
  refine gl_aload_n C (pc' := 1404) (i := 2) rfl dL_law_1403 rfl rfl ?_
  refine gl_callm C (pc' := 1407) rfl dL_law_1404 wm_L_173 uX10_check (kX10_check _ _ _ _ e2) h2 (by decide) (fun _ => rfl) rfl rfl (Nat.le_of_ble_eq_true rfl) ?_
  refine gl_eqT C (tgt := 1458) dL_law_1407 rfl ?_
  exact k
set_option maxHeartbeats 4000000 in
set_option maxRecDepth 100000 in
theorem lc_38 {p : Program} {l : Launch} {e : Env} {s : State} {m : MethodId} {below : List Frame} {meth : Method} {c : Code} {b L : Nat} {xs : Nat → Int32} {D : va_G} {tc : Nat → ClassId} {ta tb : Nat} {Q : State → Prop} (C : gl_C p s m meth c b L xs D tc ta tb) {wc wm wc1 wm1 : ab_W} {r : Int32} {i : Nat} (hi : i + 6 ≤ L) (e1 : sX9_count 0 (xs (i + 1)) wc = some (r, wc1)) (e2 : sX10_count 0 (xs (i + 1)) wm = some (r, wm1)) (h1 : wc1.length = 65) (h2 : wm1.length = 13) (k : gl_G p l e s m below meth c b D tc ta tb Q 1458 [some (.ref b), some (.ref s.heap.size), some (.ref (s.heap.size + 65)), some (.int (nI i))] [] wc1 wm1) : gl_G p l e s m below meth c b D tc ta tb Q 1412 [some (.ref b), some (.ref s.heap.size), some (.ref (s.heap.size + 65)), some (.int (nI i))] [] wc wm := by
  refine gl_aload_n C (pc' := 1413) (i := 1) rfl dL_law_1412 rfl rfl ?_
  refine gl_arg C (pc' := 1418) (k0 := 1) dL_law_1413 dL_law_1414 dL_law_1415 dL_law_1416 dL_law_1417 rfl (by decide) hi (by decide) rfl rfl ?_
  refine gl_callx C (pc' := 1421) rfl dL_law_1418 wm_L_174 uX9_count (kX9_count _ _ _ _ _ e1) h1 (by decide) (fun _ => rfl) rfl rfl (Nat.le_of_ble_eq_true rfl) ?_
  refine gl_aload_n C (pc' := 1422) (i := 2) rfl dL_law_1421 rfl rfl ?_
  refine gl_arg C (pc' := 1427) (k0 := 1) dL_law_1422 dL_law_1423 dL_law_1424 dL_law_1425 dL_law_1426 rfl (by decide) hi (by decide) rfl rfl ?_
  refine gl_callm C (pc' := 1430) rfl dL_law_1427 wm_L_177 uX10_count (kX10_count _ _ _ _ _ e2) h2 (by decide) (fun _ => rfl) rfl rfl (Nat.le_of_ble_eq_true rfl) ?_
  refine gl_eqT C (tgt := 1458) dL_law_1430 rfl ?_
  exact k
set_option maxHeartbeats 4000000 in
set_option maxRecDepth 100000 in
theorem lc_39 {p : Program} {l : Launch} {e : Env} {s : State} {m : MethodId} {below : List Frame} {meth : Method} {c : Code} {b L : Nat} {xs : Nat → Int32} {D : va_G} {tc : Nat → ClassId} {ta tb : Nat} {Q : State → Prop} (C : gl_C p s m meth c b L xs D tc ta tb) {wc wm wc1 wm1 : ab_W} {r : Int32} {i : Nat} (hi : i + 6 ≤ L) (e1 : sX9_told 0 (xs (i + 1)) wc = some (r, wc1)) (e2 : sX10_told 0 (xs (i + 1)) wm = some (r, wm1)) (h1 : wc1.length = 65) (h2 : wm1.length = 13) (k : gl_G p l e s m below meth c b D tc ta tb Q 1458 [some (.ref b), some (.ref s.heap.size), some (.ref (s.heap.size + 65)), some (.int (nI i))] [] wc1 wm1) : gl_G p l e s m below meth c b D tc ta tb Q 1435 [some (.ref b), some (.ref s.heap.size), some (.ref (s.heap.size + 65)), some (.int (nI i))] [] wc wm := by
  refine gl_aload_n C (pc' := 1436) (i := 1) rfl dL_law_1435 rfl rfl ?_
  refine gl_arg C (pc' := 1441) (k0 := 1) dL_law_1436 dL_law_1437 dL_law_1438 dL_law_1439 dL_law_1440 rfl (by decide) hi (by decide) rfl rfl ?_
  refine gl_callx C (pc' := 1444) rfl dL_law_1441 wm_L_178 uX9_told (kX9_told _ _ _ _ _ e1) h1 (by decide) (fun _ => rfl) rfl rfl (Nat.le_of_ble_eq_true rfl) ?_
  refine gl_aload_n C (pc' := 1445) (i := 2) rfl dL_law_1444 rfl rfl ?_
  refine gl_arg C (pc' := 1450) (k0 := 1) dL_law_1445 dL_law_1446 dL_law_1447 dL_law_1448 dL_law_1449 rfl (by decide) hi (by decide) rfl rfl ?_
  refine gl_callm C (pc' := 1453) rfl dL_law_1450 wm_L_181 uX10_told (kX10_told _ _ _ _ _ e2) h2 (by decide) (fun _ => rfl) rfl rfl (Nat.le_of_ble_eq_true rfl) ?_
  refine gl_eqT C (tgt := 1458) dL_law_1453 rfl ?_
  exact k
set_option maxHeartbeats 4000000 in
set_option maxRecDepth 100000 in
/-- THE LAW'S LOOP -/
theorem law_loop {p : Program} {l : Launch} {e : Env} {s : State} {m : MethodId} {below : List Frame} {meth : Method} {c : Code} {b L : Nat} {xs : Nat → Int32} {D : va_G} {tc : Nat → ClassId} {ta tb : Nat} {Q : State → Prop} (C : gl_C p s m meth c b L xs D tc ta tb) {I : Nat → ab_W → ab_W → Prop} (hO : law_ok I) (hend : ∀ (wc wm : ab_W) (lv : List (Option Value)), gl_G p l e s m below meth c b D tc ta tb Q 1464 lv [] wc wm) :
    ∀ (n i t : Nat), L + 1 ≤ i + n → i ≤ L + 6 → i = 6 * t → ∀ (wc wm : ab_W), I t wc wm → gl_G p l e s m below meth c b D tc ta tb Q 18 [some (.ref b), some (.ref s.heap.size), some (.ref (s.heap.size + 65)), some (.int (nI i))] [] wc wm := by
  have hL3 := C.2.2.2.1.2.2
  intro n
  induction n with
  | zero =>
    intro i t h1 hiL hit wc wm hI
    refine gl_iload_n C (pc' := 19) (i := 3) rfl dL_law_18 rfl rfl ?_
    refine gl_aload_n C (pc' := 20) (i := 0) rfl dL_law_19 rfl rfl ?_
    refine gl_slen C (pc' := 21) rfl dL_law_20 ?_
    refine gl_bipush C (pc' := 23) (v := 6) rfl dL_law_21 (by decide) ?_
    refine gl_isub C (pc' := 24) rfl dL_law_23 ?_
    refine gl_gt C (pc' := 27) (tgt := 1464) rfl dL_law_24 (by decide) (fun _ => hend wc wm _) (fun c1 => absurd (gl_out (by omega) hiL hL3) c1)
  | succ n ih =>
    intro i t h1 hiL hit wc wm hI
    refine gl_iload_n C (pc' := 19) (i := 3) rfl dL_law_18 rfl rfl ?_
    refine gl_aload_n C (pc' := 20) (i := 0) rfl dL_law_19 rfl rfl ?_
    refine gl_slen C (pc' := 21) rfl dL_law_20 ?_
    refine gl_bipush C (pc' := 23) (v := 6) rfl dL_law_21 (by decide) ?_
    refine gl_isub C (pc' := 24) rfl dL_law_23 ?_
    refine gl_gt C (pc' := 27) (tgt := 1464) rfl dL_law_24 (by decide) (fun _ => hend wc wm _) (fun c1 => ?_)
    have hi6 : i + 6 ≤ L := gl_room c1 hiL hL3
    have back : ∀ wc1 wm1, I (t + 1) wc1 wm1 → gl_G p l e s m below meth c b D tc ta tb Q 1458 [some (.ref b), some (.ref s.heap.size), some (.ref (s.heap.size + 65)), some (.int (nI i))] [] wc1 wm1 := by
      intro wc1 wm1 hI1
      refine gl_iinc C (pc' := 1461) (i := 3) (v := nI (i + 6)) (lv' := [_, _, _, _]) rfl dL_law_1458 rfl (by rw [← nI_add]; rfl) (by decide) rfl rfl ?_
      refine gl_goto C (tgt := 18) dL_law_1461 (by decide) ?_
      exact ih (i + 6) (t + 1) (by omega) (by omega) (by omega) wc1 wm1 hI1
    refine gl_aload_n C (pc' := 28) (i := 0) rfl dL_law_27 rfl rfl ?_
    refine gl_iload_n C (pc' := 29) (i := 3) rfl dL_law_28 rfl rfl ?_
    refine gl_sld C (pc' := 30) rfl dL_law_29 (vp_in_nI (by omega) (by omega)) ?_
    refine gl_bipush C (pc' := 32) (v := 63) rfl dL_law_30 (by decide) ?_
    refine gl_iand C (pc' := 33) rfl dL_law_32 ?_
    refine gl_tab C (tgt := 208) dL_law_33 0 0 (by decide) (by decide) rfl (by decide) ?_ (fun n0 => ?_)
    · obtain ⟨r, wc1, wm1, e1, e2, hI1⟩ := hO.2.1 t wc wm (by omega) hI (xs (i + 1)) (xs (i + 2))
      obtain ⟨h1, h2, -⟩ := hO.1 _ wc1 wm1 hI1
      exact lc_0 C hi6 e1 e2 h1 h2 (back wc1 wm1 hI1)
    refine gl_tab C (tgt := 241) dL_law_33 1 1 (by decide) (by decide) rfl (by decide) ?_ (fun n1 => ?_)
    · obtain ⟨r, wc1, wm1, e1, e2, hI1⟩ := hO.2.2.1 t wc wm (by omega) hI (xs (i + 1)) (xs (i + 2))
      obtain ⟨h1, h2, -⟩ := hO.1 _ wc1 wm1 hI1
      exact lc_1 C hi6 e1 e2 h1 h2 (back wc1 wm1 hI1)
    refine gl_tab C (tgt := 274) dL_law_33 2 2 (by decide) (by decide) rfl (by decide) ?_ (fun n2 => ?_)
    · obtain ⟨r, wc1, wm1, e1, e2, hI1⟩ := hO.2.2.2.1 t wc wm (by omega) hI (xs (i + 1)) (xs (i + 2)) (xs (i + 3))
      obtain ⟨h1, h2, -⟩ := hO.1 _ wc1 wm1 hI1
      exact lc_2 C hi6 e1 e2 h1 h2 (back wc1 wm1 hI1)
    refine gl_tab C (tgt := 317) dL_law_33 3 3 (by decide) (by decide) rfl (by decide) ?_ (fun n3 => ?_)
    · obtain ⟨r, wc1, wm1, e1, e2, hI1⟩ := hO.2.2.2.2.1 t wc wm (by omega) hI (xs (i + 1)) (xs (i + 2))
      obtain ⟨h1, h2, -⟩ := hO.1 _ wc1 wm1 hI1
      exact lc_3 C hi6 e1 e2 h1 h2 (back wc1 wm1 hI1)
    refine gl_tab C (tgt := 350) dL_law_33 4 4 (by decide) (by decide) rfl (by decide) ?_ (fun n4 => ?_)
    · obtain ⟨r, wc1, wm1, e1, e2, hI1⟩ := hO.2.2.2.2.2.1 t wc wm (by omega) hI (xs (i + 1))
      obtain ⟨h1, h2, -⟩ := hO.1 _ wc1 wm1 hI1
      exact lc_4 C hi6 e1 e2 h1 h2 (back wc1 wm1 hI1)
    refine gl_tab C (tgt := 373) dL_law_33 5 5 (by decide) (by decide) rfl (by decide) ?_ (fun n5 => ?_)
    · obtain ⟨r, wc1, wm1, e1, e2, hI1⟩ := hO.2.2.2.2.2.2.1 t wc wm (by omega) hI (xs (i + 1))
      obtain ⟨h1, h2, -⟩ := hO.1 _ wc1 wm1 hI1
      exact lc_5 C hi6 e1 e2 h1 h2 (back wc1 wm1 hI1)
    refine gl_tab C (tgt := 396) dL_law_33 6 6 (by decide) (by decide) rfl (by decide) ?_ (fun n6 => ?_)
    · obtain ⟨r, wc1, wm1, e1, e2, hI1⟩ := hO.2.2.2.2.2.2.2.1 t wc wm (by omega) hI (xs (i + 1)) (xs (i + 2))
      obtain ⟨h1, h2, -⟩ := hO.1 _ wc1 wm1 hI1
      exact lc_6 C hi6 e1 e2 h1 h2 (back wc1 wm1 hI1)
    refine gl_tab C (tgt := 429) dL_law_33 7 7 (by decide) (by decide) rfl (by decide) ?_ (fun n7 => ?_)
    · obtain ⟨r, wc1, wm1, e1, e2, hI1⟩ := hO.2.2.2.2.2.2.2.2.1 t wc wm (by omega) hI (xs (i + 1)) (xs (i + 2))
      obtain ⟨h1, h2, -⟩ := hO.1 _ wc1 wm1 hI1
      exact lc_7 C hi6 e1 e2 h1 h2 (back wc1 wm1 hI1)
    refine gl_tab C (tgt := 462) dL_law_33 8 8 (by decide) (by decide) rfl (by decide) ?_ (fun n8 => ?_)
    · obtain ⟨r, wc1, wm1, e1, e2, hI1⟩ := hO.2.2.2.2.2.2.2.2.2.1 t wc wm (by omega) hI ((((xs (i + 1)).toInt64 <<< ((32 : Int32).toInt64 &&& 63)) ||| ((xs (i + 2)).toInt64 &&& (4294967295 : Int64)))) (xs (i + 3))
      obtain ⟨h1, h2, -⟩ := hO.1 _ wc1 wm1 hI1
      exact lc_8 C hi6 e1 e2 h1 h2 (back wc1 wm1 hI1)
    refine gl_tab C (tgt := 525) dL_law_33 9 9 (by decide) (by decide) rfl (by decide) ?_ (fun n9 => ?_)
    · obtain ⟨r, wc1, wm1, e1, e2, hI1⟩ := hO.2.2.2.2.2.2.2.2.2.2.1 t wc wm (by omega) hI (xs (i + 1))
      obtain ⟨h1, h2, -⟩ := hO.1 _ wc1 wm1 hI1
      exact lc_9 C hi6 e1 e2 h1 h2 (back wc1 wm1 hI1)
    refine gl_tab C (tgt := 548) dL_law_33 10 10 (by decide) (by decide) rfl (by decide) ?_ (fun n10 => ?_)
    · obtain ⟨r, wc1, wm1, e1, e2, hI1⟩ := hO.2.2.2.2.2.2.2.2.2.2.2.1 t wc wm (by omega) hI (xs (i + 1)) (xs (i + 2)) (xs (i + 3)) (xs (i + 4))
      obtain ⟨h1, h2, -⟩ := hO.1 _ wc1 wm1 hI1
      exact lc_10 C hi6 e1 e2 h1 h2 (back wc1 wm1 hI1)
    refine gl_tab C (tgt := 601) dL_law_33 11 11 (by decide) (by decide) rfl (by decide) ?_ (fun n11 => ?_)
    · obtain ⟨r, wc1, wm1, e1, e2, hI1⟩ := hO.2.2.2.2.2.2.2.2.2.2.2.2.1 t wc wm (by omega) hI (xs (i + 1))
      obtain ⟨h1, h2, -⟩ := hO.1 _ wc1 wm1 hI1
      exact lc_11 C hi6 e1 e2 h1 h2 (back wc1 wm1 hI1)
    refine gl_tab C (tgt := 624) dL_law_33 12 12 (by decide) (by decide) rfl (by decide) ?_ (fun n12 => ?_)
    · obtain ⟨r, wc1, wm1, e1, e2, hI1⟩ := hO.2.2.2.2.2.2.2.2.2.2.2.2.2.1 t wc wm (by omega) hI (xs (i + 1))
      obtain ⟨h1, h2, -⟩ := hO.1 _ wc1 wm1 hI1
      exact lc_12 C hi6 e1 e2 h1 h2 (back wc1 wm1 hI1)
    refine gl_tab C (tgt := 647) dL_law_33 13 13 (by decide) (by decide) rfl (by decide) ?_ (fun n13 => ?_)
    · obtain ⟨r, wc1, wm1, e1, e2, hI1⟩ := hO.2.2.2.2.2.2.2.2.2.2.2.2.2.2.1 t wc wm (by omega) hI (xs (i + 1)) (xs (i + 2))
      obtain ⟨h1, h2, -⟩ := hO.1 _ wc1 wm1 hI1
      exact lc_13 C hi6 e1 e2 h1 h2 (back wc1 wm1 hI1)
    refine gl_tab C (tgt := 680) dL_law_33 14 14 (by decide) (by decide) rfl (by decide) ?_ (fun n14 => ?_)
    · obtain ⟨r, wc1, wm1, e1, e2, hI1⟩ := hO.2.2.2.2.2.2.2.2.2.2.2.2.2.2.2.1 t wc wm (by omega) hI (xs (i + 1)) (xs (i + 2))
      obtain ⟨h1, h2, -⟩ := hO.1 _ wc1 wm1 hI1
      exact lc_14 C hi6 e1 e2 h1 h2 (back wc1 wm1 hI1)
    refine gl_tab C (tgt := 713) dL_law_33 15 15 (by decide) (by decide) rfl (by decide) ?_ (fun n15 => ?_)
    · obtain ⟨r, wc1, wm1, e1, e2, hI1⟩ := hO.2.2.2.2.2.2.2.2.2.2.2.2.2.2.2.2.1 t wc wm (by omega) hI (xs (i + 1)) (xs (i + 2)) (xs (i + 3))
      obtain ⟨h1, h2, -⟩ := hO.1 _ wc1 wm1 hI1
      exact lc_15 C hi6 e1 e2 h1 h2 (back wc1 wm1 hI1)
    refine gl_tab C (tgt := 756) dL_law_33 16 16 (by decide) (by decide) rfl (by decide) ?_ (fun n16 => ?_)
    · obtain ⟨r, wc1, wm1, e1, e2, hI1⟩ := hO.2.2.2.2.2.2.2.2.2.2.2.2.2.2.2.2.2.1 t wc wm (by omega) hI (xs (i + 1)) (xs (i + 2))
      obtain ⟨h1, h2, -⟩ := hO.1 _ wc1 wm1 hI1
      exact lc_16 C hi6 e1 e2 h1 h2 (back wc1 wm1 hI1)
    refine gl_tab C (tgt := 789) dL_law_33 17 17 (by decide) (by decide) rfl (by decide) ?_ (fun n17 => ?_)
    · obtain ⟨r, wc1, wm1, e1, e2, hI1⟩ := hO.2.2.2.2.2.2.2.2.2.2.2.2.2.2.2.2.2.2.1 t wc wm (by omega) hI (xs (i + 1)) (xs (i + 2))
      obtain ⟨h1, h2, -⟩ := hO.1 _ wc1 wm1 hI1
      exact lc_17 C hi6 e1 e2 h1 h2 (back wc1 wm1 hI1)
    refine gl_tab C (tgt := 822) dL_law_33 18 18 (by decide) (by decide) rfl (by decide) ?_ (fun n18 => ?_)
    · obtain ⟨r, wc1, wm1, e1, e2, hI1⟩ := hO.2.2.2.2.2.2.2.2.2.2.2.2.2.2.2.2.2.2.2.1 t wc wm (by omega) hI (xs (i + 1))
      obtain ⟨h1, h2, -⟩ := hO.1 _ wc1 wm1 hI1
      exact lc_18 C hi6 e1 e2 h1 h2 (back wc1 wm1 hI1)
    refine gl_tab C (tgt := 845) dL_law_33 19 19 (by decide) (by decide) rfl (by decide) ?_ (fun n19 => ?_)
    · obtain ⟨r, wc1, wm1, e1, e2, hI1⟩ := hO.2.2.2.2.2.2.2.2.2.2.2.2.2.2.2.2.2.2.2.2.1 t wc wm (by omega) hI (xs (i + 1)) (xs (i + 2)) (xs (i + 3))
      obtain ⟨h1, h2, -⟩ := hO.1 _ wc1 wm1 hI1
      exact lc_19 C hi6 e1 e2 h1 h2 (back wc1 wm1 hI1)
    refine gl_tab C (tgt := 888) dL_law_33 20 20 (by decide) (by decide) rfl (by decide) ?_ (fun n20 => ?_)
    · obtain ⟨r, wc1, wm1, e1, e2, hI1⟩ := hO.2.2.2.2.2.2.2.2.2.2.2.2.2.2.2.2.2.2.2.2.2.1 t wc wm (by omega) hI (xs (i + 1))
      obtain ⟨h1, h2, -⟩ := hO.1 _ wc1 wm1 hI1
      exact lc_20 C hi6 e1 e2 h1 h2 (back wc1 wm1 hI1)
    refine gl_tab C (tgt := 911) dL_law_33 21 21 (by decide) (by decide) rfl (by decide) ?_ (fun n21 => ?_)
    · obtain ⟨r, wc1, wm1, e1, e2, hI1⟩ := hO.2.2.2.2.2.2.2.2.2.2.2.2.2.2.2.2.2.2.2.2.2.2.1 t wc wm (by omega) hI (xs (i + 1)) (xs (i + 2)) (xs (i + 3))
      obtain ⟨h1, h2, -⟩ := hO.1 _ wc1 wm1 hI1
      exact lc_21 C hi6 e1 e2 h1 h2 (back wc1 wm1 hI1)
    refine gl_tab C (tgt := 954) dL_law_33 22 22 (by decide) (by decide) rfl (by decide) ?_ (fun n22 => ?_)
    · obtain ⟨r, wc1, wm1, e1, e2, hI1⟩ := hO.2.2.2.2.2.2.2.2.2.2.2.2.2.2.2.2.2.2.2.2.2.2.2.1 t wc wm (by omega) hI (xs (i + 1)) (xs (i + 2))
      obtain ⟨h1, h2, -⟩ := hO.1 _ wc1 wm1 hI1
      exact lc_22 C hi6 e1 e2 h1 h2 (back wc1 wm1 hI1)
    refine gl_tab C (tgt := 987) dL_law_33 23 23 (by decide) (by decide) rfl (by decide) ?_ (fun n23 => ?_)
    · obtain ⟨r, wc1, wm1, e1, e2, hI1⟩ := hO.2.2.2.2.2.2.2.2.2.2.2.2.2.2.2.2.2.2.2.2.2.2.2.2.1 t wc wm (by omega) hI (xs (i + 1))
      obtain ⟨h1, h2, -⟩ := hO.1 _ wc1 wm1 hI1
      exact lc_23 C hi6 e1 e2 h1 h2 (back wc1 wm1 hI1)
    refine gl_tab C (tgt := 1010) dL_law_33 24 24 (by decide) (by decide) rfl (by decide) ?_ (fun n24 => ?_)
    · obtain ⟨r, wc1, wm1, e1, e2, hI1⟩ := hO.2.2.2.2.2.2.2.2.2.2.2.2.2.2.2.2.2.2.2.2.2.2.2.2.2.1 t wc wm (by omega) hI (xs (i + 1))
      obtain ⟨h1, h2, -⟩ := hO.1 _ wc1 wm1 hI1
      exact lc_24 C hi6 e1 e2 h1 h2 (back wc1 wm1 hI1)
    refine gl_tab C (tgt := 1033) dL_law_33 25 25 (by decide) (by decide) rfl (by decide) ?_ (fun n25 => ?_)
    · obtain ⟨r, wc1, wm1, e1, e2, hI1⟩ := hO.2.2.2.2.2.2.2.2.2.2.2.2.2.2.2.2.2.2.2.2.2.2.2.2.2.2.1 t wc wm (by omega) hI (xs (i + 1)) (xs (i + 2))
      obtain ⟨h1, h2, -⟩ := hO.1 _ wc1 wm1 hI1
      exact lc_25 C hi6 e1 e2 h1 h2 (back wc1 wm1 hI1)
    refine gl_tab C (tgt := 1066) dL_law_33 26 26 (by decide) (by decide) rfl (by decide) ?_ (fun n26 => ?_)
    · obtain ⟨r, wc1, wm1, e1, e2, hI1⟩ := hO.2.2.2.2.2.2.2.2.2.2.2.2.2.2.2.2.2.2.2.2.2.2.2.2.2.2.2.1 t wc wm (by omega) hI (xs (i + 1))
      obtain ⟨h1, h2, -⟩ := hO.1 _ wc1 wm1 hI1
      exact lc_26 C hi6 e1 e2 h1 h2 (back wc1 wm1 hI1)
    refine gl_tab C (tgt := 1089) dL_law_33 27 27 (by decide) (by decide) rfl (by decide) ?_ (fun n27 => ?_)
    · obtain ⟨r, wc1, wm1, e1, e2, hI1⟩ := hO.2.2.2.2.2.2.2.2.2.2.2.2.2.2.2.2.2.2.2.2.2.2.2.2.2.2.2.2.1 t wc wm (by omega) hI (xs (i + 1)) (xs (i + 2)) (xs (i + 3))
      obtain ⟨h1, h2, -⟩ := hO.1 _ wc1 wm1 hI1
      exact lc_27 C hi6 e1 e2 h1 h2 (back wc1 wm1 hI1)
    refine gl_tab C (tgt := 1132) dL_law_33 28 28 (by decide) (by decide) rfl (by decide) ?_ (fun n28 => ?_)
    · obtain ⟨r, wc1, wm1, e1, e2, hI1⟩ := hO.2.2.2.2.2.2.2.2.2.2.2.2.2.2.2.2.2.2.2.2.2.2.2.2.2.2.2.2.2.1 t wc wm (by omega) hI (xs (i + 1))
      obtain ⟨h1, h2, -⟩ := hO.1 _ wc1 wm1 hI1
      exact lc_28 C hi6 e1 e2 h1 h2 (back wc1 wm1 hI1)
    refine gl_tab C (tgt := 1155) dL_law_33 29 29 (by decide) (by decide) rfl (by decide) ?_ (fun n29 => ?_)
    · obtain ⟨r, wc1, wm1, e1, e2, hI1⟩ := hO.2.2.2.2.2.2.2.2.2.2.2.2.2.2.2.2.2.2.2.2.2.2.2.2.2.2.2.2.2.2.1 t wc wm (by omega) hI (xs (i + 1)) (xs (i + 2)) (xs (i + 3))
      obtain ⟨h1, h2, -⟩ := hO.1 _ wc1 wm1 hI1
      exact lc_29 C hi6 e1 e2 h1 h2 (back wc1 wm1 hI1)
    refine gl_tab C (tgt := 1198) dL_law_33 30 30 (by decide) (by decide) rfl (by decide) ?_ (fun n30 => ?_)
    · obtain ⟨r, wc1, wm1, e1, e2, hI1⟩ := hO.2.2.2.2.2.2.2.2.2.2.2.2.2.2.2.2.2.2.2.2.2.2.2.2.2.2.2.2.2.2.2.1 t wc wm (by omega) hI (xs (i + 1)) (xs (i + 2)) (xs (i + 3))
      obtain ⟨h1, h2, -⟩ := hO.1 _ wc1 wm1 hI1
      exact lc_30 C hi6 e1 e2 h1 h2 (back wc1 wm1 hI1)
    refine gl_tab C (tgt := 1241) dL_law_33 31 31 (by decide) (by decide) rfl (by decide) ?_ (fun n31 => ?_)
    · obtain ⟨r, wc1, wm1, e1, e2, hI1⟩ := hO.2.2.2.2.2.2.2.2.2.2.2.2.2.2.2.2.2.2.2.2.2.2.2.2.2.2.2.2.2.2.2.2.1 t wc wm (by omega) hI (xs (i + 1)) (xs (i + 2)) (xs (i + 3)) (xs (i + 4)) (xs (i + 5))
      obtain ⟨h1, h2, -⟩ := hO.1 _ wc1 wm1 hI1
      exact lc_31 C hi6 e1 e2 h1 h2 (back wc1 wm1 hI1)
    refine gl_tab C (tgt := 1304) dL_law_33 32 32 (by decide) (by decide) rfl (by decide) ?_ (fun n32 => ?_)
    · obtain ⟨r, wc1, wm1, e1, e2, hI1⟩ := hO.2.2.2.2.2.2.2.2.2.2.2.2.2.2.2.2.2.2.2.2.2.2.2.2.2.2.2.2.2.2.2.2.2.1 t wc wm (by omega) hI (xs (i + 1))
      obtain ⟨h1, h2, -⟩ := hO.1 _ wc1 wm1 hI1
      exact lc_32 C hi6 e1 e2 h1 h2 (back wc1 wm1 hI1)
    refine gl_tab C (tgt := 1327) dL_law_33 33 33 (by decide) (by decide) rfl (by decide) ?_ (fun n33 => ?_)
    · obtain ⟨r, wc1, wm1, e1, e2, hI1⟩ := hO.2.2.2.2.2.2.2.2.2.2.2.2.2.2.2.2.2.2.2.2.2.2.2.2.2.2.2.2.2.2.2.2.2.2.1 t wc wm (by omega) hI (xs (i + 1))
      obtain ⟨h1, h2, -⟩ := hO.1 _ wc1 wm1 hI1
      exact lc_33 C hi6 e1 e2 h1 h2 (back wc1 wm1 hI1)
    refine gl_tab C (tgt := 1350) dL_law_33 34 34 (by decide) (by decide) rfl (by decide) ?_ (fun n34 => ?_)
    · obtain ⟨r, wc1, wm1, e1, e2, hI1⟩ := hO.2.2.2.2.2.2.2.2.2.2.2.2.2.2.2.2.2.2.2.2.2.2.2.2.2.2.2.2.2.2.2.2.2.2.2.1 t wc wm (by omega) hI 
      obtain ⟨h1, h2, -⟩ := hO.1 _ wc1 wm1 hI1
      exact lc_34 C hi6 e1 e2 h1 h2 (back wc1 wm1 hI1)
    refine gl_tab C (tgt := 1363) dL_law_33 35 35 (by decide) (by decide) rfl (by decide) ?_ (fun n35 => ?_)
    · obtain ⟨r, wc1, wm1, e1, e2, hI1⟩ := hO.2.2.2.2.2.2.2.2.2.2.2.2.2.2.2.2.2.2.2.2.2.2.2.2.2.2.2.2.2.2.2.2.2.2.2.2.1 t wc wm (by omega) hI 
      obtain ⟨h1, h2, -⟩ := hO.1 _ wc1 wm1 hI1
      exact lc_35 C hi6 e1 e2 h1 h2 (back wc1 wm1 hI1)
    refine gl_tab C (tgt := 1376) dL_law_33 36 36 (by decide) (by decide) rfl (by decide) ?_ (fun n36 => ?_)
    · obtain ⟨r, wc1, wm1, e1, e2, hI1⟩ := hO.2.2.2.2.2.2.2.2.2.2.2.2.2.2.2.2.2.2.2.2.2.2.2.2.2.2.2.2.2.2.2.2.2.2.2.2.2.1 t wc wm (by omega) hI (xs (i + 1))
      obtain ⟨h1, h2, -⟩ := hO.1 _ wc1 wm1 hI1
      exact lc_36 C hi6 e1 e2 h1 h2 (back wc1 wm1 hI1)
    refine gl_tab C (tgt := 1399) dL_law_33 37 37 (by decide) (by decide) rfl (by decide) ?_ (fun n37 => ?_)
    · obtain ⟨r, wc1, wm1, e1, e2, hI1⟩ := hO.2.2.2.2.2.2.2.2.2.2.2.2.2.2.2.2.2.2.2.2.2.2.2.2.2.2.2.2.2.2.2.2.2.2.2.2.2.2.1 t wc wm (by omega) hI 
      obtain ⟨h1, h2, -⟩ := hO.1 _ wc1 wm1 hI1
      exact lc_37 C hi6 e1 e2 h1 h2 (back wc1 wm1 hI1)
    refine gl_tab C (tgt := 1412) dL_law_33 38 38 (by decide) (by decide) rfl (by decide) ?_ (fun n38 => ?_)
    · obtain ⟨r, wc1, wm1, e1, e2, hI1⟩ := hO.2.2.2.2.2.2.2.2.2.2.2.2.2.2.2.2.2.2.2.2.2.2.2.2.2.2.2.2.2.2.2.2.2.2.2.2.2.2.2.1 t wc wm (by omega) hI (xs (i + 1))
      obtain ⟨h1, h2, -⟩ := hO.1 _ wc1 wm1 hI1
      exact lc_38 C hi6 e1 e2 h1 h2 (back wc1 wm1 hI1)
    refine gl_tab C (tgt := 1435) dL_law_33 39 39 (by decide) (by decide) rfl (by decide) ?_ (fun n39 => ?_)
    · obtain ⟨r, wc1, wm1, e1, e2, hI1⟩ := hO.2.2.2.2.2.2.2.2.2.2.2.2.2.2.2.2.2.2.2.2.2.2.2.2.2.2.2.2.2.2.2.2.2.2.2.2.2.2.2.2 t wc wm (by omega) hI (xs (i + 1))
      obtain ⟨h1, h2, -⟩ := hO.1 _ wc1 wm1 hI1
      exact lc_39 C hi6 e1 e2 h1 h2 (back wc1 wm1 hI1)
    refine gl_tabD C (tgt := 1458) dL_law_33 (by decide) (gj_tout _ 0 40 (fun j hj => match j, hj with | 0, _ => lv_neT n0 (by decide) | 1, _ => lv_neT n1 (by decide) | 2, _ => lv_neT n2 (by decide) | 3, _ => lv_neT n3 (by decide) | 4, _ => lv_neT n4 (by decide) | 5, _ => lv_neT n5 (by decide) | 6, _ => lv_neT n6 (by decide) | 7, _ => lv_neT n7 (by decide) | 8, _ => lv_neT n8 (by decide) | 9, _ => lv_neT n9 (by decide) | 10, _ => lv_neT n10 (by decide) | 11, _ => lv_neT n11 (by decide) | 12, _ => lv_neT n12 (by decide) | 13, _ => lv_neT n13 (by decide) | 14, _ => lv_neT n14 (by decide) | 15, _ => lv_neT n15 (by decide) | 16, _ => lv_neT n16 (by decide) | 17, _ => lv_neT n17 (by decide) | 18, _ => lv_neT n18 (by decide) | 19, _ => lv_neT n19 (by decide) | 20, _ => lv_neT n20 (by decide) | 21, _ => lv_neT n21 (by decide) | 22, _ => lv_neT n22 (by decide) | 23, _ => lv_neT n23 (by decide) | 24, _ => lv_neT n24 (by decide) | 25, _ => lv_neT n25 (by decide) | 26, _ => lv_neT n26 (by decide) | 27, _ => lv_neT n27 (by decide) | 28, _ => lv_neT n28 (by decide) | 29, _ => lv_neT n29 (by decide) | 30, _ => lv_neT n30 (by decide) | 31, _ => lv_neT n31 (by decide) | 32, _ => lv_neT n32 (by decide) | 33, _ => lv_neT n33 (by decide) | 34, _ => lv_neT n34 (by decide) | 35, _ => lv_neT n35 (by decide) | 36, _ => lv_neT n36 (by decide) | 37, _ => lv_neT n37 (by decide) | 38, _ => lv_neT n38 (by decide) | 39, _ => lv_neT n39 (by decide) | j + 40, hj => absurd hj (by omega))) ?_
    exact back wc wm (hO.1 t wc wm hI).2.2
