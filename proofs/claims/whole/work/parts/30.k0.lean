set_option maxHeartbeats 4000000 in
set_option maxRecDepth 100000 in
theorem kX3_lay : ∀ (x0 : Nat) (x1 : Int32) (x2 : Int32) (w : ab_W) (w1 : ab_W), sX3_lay x0 x1 x2 w = some w1 → gj_Mv yX3_lay cX3_lay 3 none 0 [.ref x0, .int x1, .int x2] w w1 ∧ ab_is w 3 x0 = true := by
  intro x0 x1 x2 w w1 h
  unfold sX3_lay at h
  obtain ⟨hi, h⟩ := ab_ite h
  refine ⟨?_, hi⟩
  refine gj_Mv_of RX3 [some (.ref x0), some (.int x1), some (.int x2)] (by decide +kernel) rfl (Nat.le_of_ble_eq_true rfl) rfl (fun p l e s m args below meth c D ad tc A C => ?_)
  refine gj_aload_n C (pc' := 1) (i := 0) rfl dX3_lay_0 rfl rfl ?_
  refine gj_iload_n C (pc' := 2) (i := 1) rfl dX3_lay_1 rfl rfl ?_
  refine gj_bipush C (pc' := 4) (v := 10) rfl dX3_lay_2 (by decide) ?_
  refine gj_idiv C (pc' := 5) rfl dX3_lay_4 h (fun v1 h => ?_)
  refine gj_putI C (pc' := 8) (ty := .int) rfl dX3_lay_5 wf_X3_15 wp_X3_0 rfl h (fun w2 h => ?_)
  refine gj_aload_n C (pc' := 9) (i := 0) rfl dX3_lay_8 rfl rfl ?_
  refine gj_iload_n C (pc' := 10) (i := 1) rfl dX3_lay_9 rfl rfl ?_
  refine gj_bipush C (pc' := 12) (v := 10) rfl dX3_lay_10 (by decide) ?_
  refine gj_irem C (pc' := 13) rfl dX3_lay_12 h (fun v3 h => ?_)
  refine gj_putI C (pc' := 16) (ty := .int) rfl dX3_lay_13 wf_X3_19 wp_X3_1 rfl h (fun w4 h => ?_)
  refine gj_aload_n C (pc' := 17) (i := 0) rfl dX3_lay_16 rfl rfl ?_
  refine gj_iload_n C (pc' := 18) (i := 2) rfl dX3_lay_17 rfl rfl ?_
  refine gj_putI C (pc' := 21) (ty := .int) rfl dX3_lay_18 wf_X3_22 wp_X3_2 rfl h (fun w5 h => ?_)
  refine gj_aload_n C (pc' := 22) (i := 0) rfl dX3_lay_21 rfl rfl ?_
  refine gj_iconst C (pc' := 23) (v := 0) rfl dX3_lay_22 (by decide) ?_
  refine gj_putI C (pc' := 26) (ty := .int) rfl dX3_lay_23 wf_X3_25 wp_X3_3 rfl h (fun w6 h => ?_)
  refine gj_aload_n C (pc' := 27) (i := 0) rfl dX3_lay_26 rfl rfl ?_
  refine gj_iconst C (pc' := 28) (v := 0) rfl dX3_lay_27 (by decide) ?_
  refine gj_putZ C (pc' := 31) (ty := .int) rfl dX3_lay_28 wf_X3_28 wp_X3_4 rfl h (fun w7 h => ?_)
  refine gj_aload_n C (pc' := 32) (i := 0) rfl dX3_lay_31 rfl rfl ?_
  refine gj_iconst C (pc' := 33) (v := 0) rfl dX3_lay_32 (by decide) ?_
  refine gj_putI C (pc' := 36) (ty := .int) rfl dX3_lay_33 wf_X3_32 wp_X3_5 rfl h (fun w8 h => ?_)
  exact gj_vret C dX3_lay_36 h
set_option maxHeartbeats 4000000 in
set_option maxRecDepth 100000 in
theorem kX0_lay : ∀ (x0 : Nat) (x1 : Int32) (x2 : Int32) (w : ab_W) (r : Int32) (w1 : ab_W), sX0_lay x0 x1 x2 w = some (r, w1) → gj_Mi yX0_lay cX0_lay 4 (some .int) 1 [.ref x0, .int x1, .int x2] w r w1 ∧ ab_is w 0 x0 = true := by
  intro x0 x1 x2 w r w1 h
  unfold sX0_lay at h
  obtain ⟨hi, h⟩ := ab_ite h
  refine ⟨?_, hi⟩
  refine gj_Mi_of RX0 [some (.ref x0), some (.int x1), some (.int x2), none] (by decide +kernel) rfl (Nat.le_of_ble_eq_true rfl) rfl (fun p l e s m args below meth c D ad tc A C => ?_)
  refine gj_aload_n C (pc' := 1) (i := 0) rfl dX0_lay_0 rfl rfl ?_
  refine gj_getI C (pc' := 4) rfl dX0_lay_1 wf_X0_32 h (fun v1 h => ?_)
  refine gj_istore_n C (pc' := 5) (i := 3) (lv' := [_, _, _, _]) rfl dX0_lay_4 rfl (by decide) rfl rfl ?_
  refine gj_iload_n C (pc' := 6) (i := 3) rfl dX0_lay_5 rfl rfl ?_
  refine gj_bipush C (pc' := 8) (v := 8) rfl dX0_lay_6 (by decide) ?_
  refine gj_icmp_ge C (pc' := 11) (tgt := 32) rfl dX0_lay_8 rfl h (fun h => ?_) (fun h => ?_)
  · refine gj_aload_n C (pc' := 12) (i := 0) rfl dX0_lay_11 rfl rfl ?_
    refine gj_getR C (pc' := 15) rfl dX0_lay_12 wf_X0_11 h (fun v2 h => ?_)
    refine gj_iload_n C (pc' := 16) (i := 3) rfl dX0_lay_15 rfl rfl ?_
    refine gj_rald C (pc' := 17) (t := 1) rfl dX0_lay_16 rfl h (fun v3 h => ?_)
    refine gj_iload_n C (pc' := 18) (i := 1) rfl dX0_lay_17 rfl rfl ?_
    refine gj_iload_n C (pc' := 19) (i := 2) rfl dX0_lay_18 rfl rfl ?_
    refine gj_callVv C (pc' := 22) rfl dX0_lay_19 wm_X0_64 uX3_lay h (kX3_lay _ _ _ _) (by omega) rfl rfl (Nat.le_of_ble_eq_true rfl) (fun w4 h => ?_)
    refine gj_aload_n C (pc' := 23) (i := 0) rfl dX0_lay_22 rfl rfl ?_
    refine gj_dup C (pc' := 24) rfl dX0_lay_23 rfl ?_
    refine gj_getI C (pc' := 27) rfl dX0_lay_24 wf_X0_32 h (fun v5 h => ?_)
    refine gj_iconst C (pc' := 28) (v := 1) rfl dX0_lay_27 (by decide) ?_
    refine gj_iadd C (pc' := 29) rfl dX0_lay_28 ?_
    refine gj_putI C (pc' := 32) (ty := .int) rfl dX0_lay_29 wf_X0_32 wp_X0_4 rfl h (fun w6 h => ?_)
    refine gj_iload_n C (pc' := 33) (i := 3) rfl dX0_lay_32 rfl rfl ?_
    exact gj_iret C dX0_lay_33 h
  · refine gj_iload_n C (pc' := 33) (i := 3) rfl dX0_lay_32 rfl rfl ?_
    exact gj_iret C dX0_lay_33 h
set_option maxHeartbeats 4000000 in
set_option maxRecDepth 100000 in
theorem kX9_within : ∀ (x0 : Int32) (x1 : Int32) (x2 : Int32) (w : ab_W) (r : Int32) (w1 : ab_W), sX9_within x0 x1 x2 w = some (r, w1) → gj_Mi yX9_within cX9_within 3 (some .boolean) 0 [.int x0, .int x1, .int x2] w r w1 := by
  intro x0 x1 x2 w r w1 h
  unfold sX9_within at h
  refine gj_Mi_of RX9 [some (.int x0), some (.int x1), some (.int x2)] (by decide +kernel) rfl (Nat.le_of_ble_eq_true rfl) rfl (fun p l e s m args below meth c D ad tc A C => ?_)
  refine gj_iload_n C (pc' := 1) (i := 0) rfl dX9_within_0 rfl rfl ?_
  refine gj_iload_n C (pc' := 2) (i := 1) rfl dX9_within_1 rfl rfl ?_
  refine gj_icmp_lt C (pc' := 5) (tgt := 14) rfl dX9_within_2 rfl h (fun h => ?_) (fun h => ?_)
  · refine gj_iconst C (pc' := 15) (v := 0) rfl dX9_within_14 (by decide) ?_
    exact gj_zret C dX9_within_15 h
  · refine gj_iload_n C (pc' := 6) (i := 0) rfl dX9_within_5 rfl rfl ?_
    refine gj_iload_n C (pc' := 7) (i := 2) rfl dX9_within_6 rfl rfl ?_
    refine gj_icmp_gt C (pc' := 10) (tgt := 14) rfl dX9_within_7 rfl h (fun h => ?_) (fun h => ?_)
    · refine gj_iconst C (pc' := 15) (v := 0) rfl dX9_within_14 (by decide) ?_
      exact gj_zret C dX9_within_15 h
    · refine gj_iconst C (pc' := 11) (v := 1) rfl dX9_within_10 (by decide) ?_
      refine gj_goto C (tgt := 15) dX9_within_11 rfl ?_
      exact gj_zret C dX9_within_15 h
set_option maxHeartbeats 4000000 in
set_option maxRecDepth 100000 in
theorem kX9_fail_19 {p : Program} {l : Launch} {e : Env} {s : State} {m : MethodId} {args : Array Value} {below : List Frame} {meth : Method} {c : Code} {D : va_G} {ad : Nat → Nat} {tc : Nat → ClassId} {A : Nat → Prop} (C : gj_C p s m args meth c D ad tc A cX9_fail 2 (some .int) RX9) {r : Int32} {w1 : ab_W} {x1 : Int32} {w : ab_W} (h : sX9_fail_19 x1 w = some (r, w1)) : gj_G p l e (gj_R 1) s m args below meth c D ad tc A 2 (gj_Qi D ad tc A below args s r w1) 19 [none, some (.int x1)] [] w := by
  unfold sX9_fail_19 at h
  refine gj_ldc_w C (pc' := 22) rfl dX9_fail_19 wk_X9_313 ?_
  refine gj_iload_n C (pc' := 23) (i := 1) rfl dX9_fail_22 rfl rfl ?_
  refine gj_isub C (pc' := 24) rfl dX9_fail_23 ?_
  exact gj_iret C dX9_fail_24 h
set_option maxHeartbeats 4000000 in
set_option maxRecDepth 100000 in
theorem kX9_fail : ∀ (x0 : Nat) (x1 : Int32) (w : ab_W) (r : Int32) (w1 : ab_W), sX9_fail x0 x1 w = some (r, w1) → gj_Mi yX9_fail cX9_fail 2 (some .int) 1 [.ref x0, .int x1] w r w1 ∧ ab_is w 9 x0 = true := by
  intro x0 x1 w r w1 h
  unfold sX9_fail at h
  obtain ⟨hi, h⟩ := ab_ite h
  refine ⟨?_, hi⟩
  refine gj_Mi_of RX9 [some (.ref x0), some (.int x1)] (by decide +kernel) rfl (Nat.le_of_ble_eq_true rfl) rfl (fun p l e s m args below meth c D ad tc A C => ?_)
  refine gj_iload_n C (pc' := 1) (i := 1) rfl dX9_fail_0 rfl rfl ?_
  refine gj_iconst C (pc' := 2) (v := 1) rfl dX9_fail_1 (by decide) ?_
  refine gj_iconst C (pc' := 3) (v := 5) rfl dX9_fail_2 (by decide) ?_
  refine gj_callSi C (pc' := 6) rfl dX9_fail_3 wm_X9_62 uX9_within h (kX9_within _ _ _ _) (by omega) rfl rfl (Nat.le_of_ble_eq_true rfl) (fun v1 w2 h => ?_)
  refine gj_if_eq C (pc' := 9) (tgt := 19) rfl dX9_fail_6 rfl h (fun h => ?_) (fun h => ?_)
  · refine gj_drop (lv' := [none, some _]) (And.intro rfl True.intro) ?_
    exact kX9_fail_19 C h
  · refine gj_aload_n C (pc' := 10) (i := 0) rfl dX9_fail_9 rfl rfl ?_
    refine gj_getR C (pc' := 13) rfl dX9_fail_10 wf_X9_9 h (fun v3 h => ?_)
    refine gj_iload_n C (pc' := 14) (i := 1) rfl dX9_fail_13 rfl rfl ?_
    refine gj_dup2 C (pc' := 15) rfl dX9_fail_14 rfl rfl ?_
    refine gj_iald C (pc' := 16) rfl dX9_fail_15 h (fun v4 h => ?_)
    refine gj_iconst C (pc' := 17) (v := 1) rfl dX9_fail_16 (by decide) ?_
    refine gj_iadd C (pc' := 18) rfl dX9_fail_17 ?_
    refine gj_iast C (pc' := 19) rfl dX9_fail_18 h (fun w5 h => ?_)
    refine gj_drop (lv' := [none, some _]) (And.intro rfl True.intro) ?_
    exact kX9_fail_19 C h
set_option maxHeartbeats 4000000 in
set_option maxRecDepth 100000 in
theorem kX9_paper_21 {p : Program} {l : Launch} {e : Env} {s : State} {m : MethodId} {args : Array Value} {below : List Frame} {meth : Method} {c : Code} {D : va_G} {ad : Nat → Nat} {tc : Nat → ClassId} {A : Nat → Prop} (C : gj_C p s m args meth c D ad tc A cX9_paper 3 (some .int) RX9) {r : Int32} {w1 : ab_W} {x0 : Nat} {w : ab_W} (h : sX9_paper_21 x0 w = some (r, w1)) : gj_G p l e (gj_R 2) s m args below meth c D ad tc A 3 (gj_Qi D ad tc A below args s r w1) 21 [some (.ref x0), none, none] [] w := by
  unfold sX9_paper_21 at h
  refine gj_aload_n C (pc' := 22) (i := 0) rfl dX9_paper_21 rfl rfl ?_
  refine gj_iconst C (pc' := 23) (v := 1) rfl dX9_paper_22 (by decide) ?_
  refine gj_callVi C (pc' := 26) rfl dX9_paper_23 wm_X9_66 uX9_fail h (kX9_fail _ _ _) (by omega) rfl rfl (Nat.le_of_ble_eq_true rfl) (fun v1 w2 h => ?_)
  exact gj_iret C dX9_paper_26 h
set_option maxHeartbeats 4000000 in
set_option maxRecDepth 100000 in
theorem kX9_paper : ∀ (x0 : Nat) (x1 : Int32) (x2 : Int32) (w : ab_W) (r : Int32) (w1 : ab_W), sX9_paper x0 x1 x2 w = some (r, w1) → gj_Mi yX9_paper cX9_paper 3 (some .int) 2 [.ref x0, .int x1, .int x2] w r w1 ∧ ab_is w 9 x0 = true := by
  intro x0 x1 x2 w r w1 h
  unfold sX9_paper at h
  obtain ⟨hi, h⟩ := ab_ite h
  refine ⟨?_, hi⟩
  refine gj_Mi_of RX9 [some (.ref x0), some (.int x1), some (.int x2)] (by decide +kernel) rfl (Nat.le_of_ble_eq_true rfl) rfl (fun p l e s m args below meth c D ad tc A C => ?_)
  refine gj_iload_n C (pc' := 1) (i := 1) rfl dX9_paper_0 rfl rfl ?_
  refine gj_iconst C (pc' := 2) (v := 0) rfl dX9_paper_1 (by decide) ?_
  refine gj_bipush C (pc' := 4) (v := 69) rfl dX9_paper_2 (by decide) ?_
  refine gj_callSi C (pc' := 7) rfl dX9_paper_4 wm_X9_62 uX9_within h (kX9_within _ _ _ _) (by omega) rfl rfl (Nat.le_of_ble_eq_true rfl) (fun v1 w2 h => ?_)
  refine gj_if_eq C (pc' := 10) (tgt := 21) rfl dX9_paper_7 rfl h (fun h => ?_) (fun h => ?_)
  · refine gj_drop (lv' := [some _, none, none]) (And.intro rfl True.intro) ?_
    exact kX9_paper_21 C h
  · refine gj_iload_n C (pc' := 11) (i := 2) rfl dX9_paper_10 rfl rfl ?_
    refine gj_iconst C (pc' := 12) (v := 0) rfl dX9_paper_11 (by decide) ?_
    refine gj_sipush C (pc' := 15) (v := 9999) rfl dX9_paper_12 (by decide) ?_
    refine gj_callSi C (pc' := 18) rfl dX9_paper_15 wm_X9_62 uX9_within h (kX9_within _ _ _ _) (by omega) rfl rfl (Nat.le_of_ble_eq_true rfl) (fun v3 w4 h => ?_)
    refine gj_if_ne C (pc' := 21) (tgt := 27) rfl dX9_paper_18 rfl h (fun h => ?_) (fun h => ?_)
    · refine gj_drop (lv' := [some _, none, none]) (And.intro rfl True.intro) ?_
      exact kX9_paper_21 C h
    · refine gj_aload_n C (pc' := 28) (i := 0) rfl dX9_paper_27 rfl rfl ?_
      refine gj_getR C (pc' := 31) rfl dX9_paper_28 wf_X9_30 h (fun v5 h => ?_)
      refine gj_getI C (pc' := 34) rfl dX9_paper_31 wf_X9_70 h (fun v6 h => ?_)
      refine gj_bipush C (pc' := 36) (v := 8) rfl dX9_paper_34 (by decide) ?_
      refine gj_icmp_lt C (pc' := 39) (tgt := 45) rfl dX9_paper_36 rfl h (fun h => ?_) (fun h => ?_)
      · refine gj_aload_n C (pc' := 46) (i := 0) rfl dX9_paper_45 rfl rfl ?_
        refine gj_getR C (pc' := 49) rfl dX9_paper_46 wf_X9_30 h (fun v7 h => ?_)
        refine gj_iload_n C (pc' := 50) (i := 1) rfl dX9_paper_49 rfl rfl ?_
        refine gj_iload_n C (pc' := 51) (i := 2) rfl dX9_paper_50 rfl rfl ?_
        refine gj_callVi C (pc' := 54) rfl dX9_paper_51 wm_X9_73 uX0_lay h (kX0_lay _ _ _ _) (by omega) rfl rfl (Nat.le_of_ble_eq_true rfl) (fun v8 w9 h => ?_)
        exact gj_iret C dX9_paper_54 h
      · refine gj_aload_n C (pc' := 40) (i := 0) rfl dX9_paper_39 rfl rfl ?_
        refine gj_iconst C (pc' := 41) (v := 4) rfl dX9_paper_40 (by decide) ?_
        refine gj_callVi C (pc' := 44) rfl dX9_paper_41 wm_X9_66 uX9_fail h (kX9_fail _ _ _) (by omega) rfl rfl (Nat.le_of_ble_eq_true rfl) (fun v10 w11 h => ?_)
        exact gj_iret C dX9_paper_44 h
set_option maxHeartbeats 4000000 in
set_option maxRecDepth 100000 in
theorem kX0_has : ∀ (x0 : Nat) (x1 : Int32) (w : ab_W) (r : Int32) (w1 : ab_W), sX0_has x0 x1 w = some (r, w1) → gj_Mi yX0_has cX0_has 2 (some .boolean) 0 [.ref x0, .int x1] w r w1 ∧ ab_is w 0 x0 = true := by
  intro x0 x1 w r w1 h
  unfold sX0_has at h
  obtain ⟨hi, h⟩ := ab_ite h
  refine ⟨?_, hi⟩
  refine gj_Mi_of RX0 [some (.ref x0), some (.int x1)] (by decide +kernel) rfl (Nat.le_of_ble_eq_true rfl) rfl (fun p l e s m args below meth c D ad tc A C => ?_)
  refine gj_iload_n C (pc' := 1) (i := 1) rfl dX0_has_0 rfl rfl ?_
  refine gj_if_lt C (pc' := 4) (tgt := 16) rfl dX0_has_1 rfl h (fun h => ?_) (fun h => ?_)
  · refine gj_iconst C (pc' := 17) (v := 0) rfl dX0_has_16 (by decide) ?_
    exact gj_zret C dX0_has_17 h
  · refine gj_iload_n C (pc' := 5) (i := 1) rfl dX0_has_4 rfl rfl ?_
    refine gj_aload_n C (pc' := 6) (i := 0) rfl dX0_has_5 rfl rfl ?_
    refine gj_getI C (pc' := 9) rfl dX0_has_6 wf_X0_32 h (fun v1 h => ?_)
    refine gj_icmp_ge C (pc' := 12) (tgt := 16) rfl dX0_has_9 rfl h (fun h => ?_) (fun h => ?_)
    · refine gj_iconst C (pc' := 13) (v := 1) rfl dX0_has_12 (by decide) ?_
      refine gj_goto C (tgt := 17) dX0_has_13 rfl ?_
      exact gj_zret C dX0_has_17 h
    · refine gj_iconst C (pc' := 17) (v := 0) rfl dX0_has_16 (by decide) ?_
      exact gj_zret C dX0_has_17 h
set_option maxHeartbeats 4000000 in
set_option maxRecDepth 100000 in
theorem kX3_stiff : ∀ (x0 : Nat) (w : ab_W) (r : Int32) (w1 : ab_W), sX3_stiff x0 w = some (r, w1) → gj_Mi yX3_stiff cX3_stiff 1 (some .int) 0 [.ref x0] w r w1 ∧ ab_is w 3 x0 = true := by
  intro x0 w r w1 h
  unfold sX3_stiff at h
  obtain ⟨hi, h⟩ := ab_ite h
  refine ⟨?_, hi⟩
  refine gj_Mi_of RX3 [some (.ref x0)] (by decide +kernel) rfl (Nat.le_of_ble_eq_true rfl) rfl (fun p l e s m args below meth c D ad tc A C => ?_)
  refine gj_aload_n C (pc' := 1) (i := 0) rfl dX3_stiff_0 rfl rfl ?_
  refine gj_getI C (pc' := 4) rfl dX3_stiff_1 wf_X3_15 h (fun v1 h => ?_)
  refine gj_tab C (tgt := 44) dX3_stiff_4 1 0 (by decide) (by decide) rfl (by decide) h (fun h => ?_) (fun n4_0 h => ?_)
  · refine gj_bipush C (pc' := 46) (v := 8) rfl dX3_stiff_44 (by decide) ?_
    refine gj_aload_n C (pc' := 47) (i := 0) rfl dX3_stiff_46 rfl rfl ?_
    refine gj_getI C (pc' := 50) rfl dX3_stiff_47 wf_X3_19 h (fun v2 h => ?_)
    refine gj_iconst C (pc' := 51) (v := 4) rfl dX3_stiff_50 (by decide) ?_
    refine gj_irem C (pc' := 52) rfl dX3_stiff_51 h (fun v3 h => ?_)
    refine gj_isub C (pc' := 53) rfl dX3_stiff_52 ?_
    exact gj_iret C dX3_stiff_53 h
  refine gj_tab C (tgt := 54) dX3_stiff_4 2 1 (by decide) (by decide) rfl (by decide) h (fun h => ?_) (fun n4_1 h => ?_)
  · refine gj_iconst C (pc' := 55) (v := 4) rfl dX3_stiff_54 (by decide) ?_
    exact gj_iret C dX3_stiff_55 h
  refine gj_tab C (tgt := 56) dX3_stiff_4 3 2 (by decide) (by decide) rfl (by decide) h (fun h => ?_) (fun n4_2 h => ?_)
  · refine gj_bipush C (pc' := 58) (v := 6) rfl dX3_stiff_56 (by decide) ?_
    exact gj_iret C dX3_stiff_58 h
  refine gj_tab C (tgt := 59) dX3_stiff_4 4 3 (by decide) (by decide) rfl (by decide) h (fun h => ?_) (fun n4_3 h => ?_)
  · refine gj_bipush C (pc' := 61) (v := 8) rfl dX3_stiff_59 (by decide) ?_
    refine gj_aload_n C (pc' := 62) (i := 0) rfl dX3_stiff_61 rfl rfl ?_
    refine gj_getI C (pc' := 65) rfl dX3_stiff_62 wf_X3_19 h (fun v4 h => ?_)
    refine gj_iconst C (pc' := 66) (v := 4) rfl dX3_stiff_65 (by decide) ?_
    refine gj_irem C (pc' := 67) rfl dX3_stiff_66 h (fun v5 h => ?_)
    refine gj_isub C (pc' := 68) rfl dX3_stiff_67 ?_
    refine gj_iconst C (pc' := 69) (v := 1) rfl dX3_stiff_68 (by decide) ?_
    refine gj_isub C (pc' := 70) rfl dX3_stiff_69 ?_
    exact gj_iret C dX3_stiff_70 h
  refine gj_tab C (tgt := 71) dX3_stiff_4 5 4 (by decide) (by decide) rfl (by decide) h (fun h => ?_) (fun n4_4 h => ?_)
  · refine gj_iconst C (pc' := 72) (v := 4) rfl dX3_stiff_71 (by decide) ?_
    refine gj_aload_n C (pc' := 73) (i := 0) rfl dX3_stiff_72 rfl rfl ?_
    refine gj_getI C (pc' := 76) rfl dX3_stiff_73 wf_X3_19 h (fun v6 h => ?_)
    refine gj_iconst C (pc' := 77) (v := 2) rfl dX3_stiff_76 (by decide) ?_
    refine gj_irem C (pc' := 78) rfl dX3_stiff_77 h (fun v7 h => ?_)
    refine gj_iadd C (pc' := 79) rfl dX3_stiff_78 ?_
    exact gj_iret C dX3_stiff_79 h
  refine gj_tab C (tgt := 80) dX3_stiff_4 6 5 (by decide) (by decide) rfl (by decide) h (fun h => ?_) (fun n4_5 h => ?_)
  · refine gj_iconst C (pc' := 81) (v := 3) rfl dX3_stiff_80 (by decide) ?_
    exact gj_iret C dX3_stiff_81 h
  refine gj_tabD C (tgt := 82) dX3_stiff_4 (by decide) (gj_tout _ 1 6 (fun j hj => match j, hj with | 0, _ => lv_neT n4_0 (by decide) | 1, _ => lv_neT n4_1 (by decide) | 2, _ => lv_neT n4_2 (by decide) | 3, _ => lv_neT n4_3 (by decide) | 4, _ => lv_neT n4_4 (by decide) | 5, _ => lv_neT n4_5 (by decide) | j + 6, hj => absurd hj (by omega))) ?_
  refine gj_bipush C (pc' := 84) (v := 8) rfl dX3_stiff_82 (by decide) ?_
  exact gj_iret C dX3_stiff_84 h
set_option maxHeartbeats 4000000 in
set_option maxRecDepth 100000 in
theorem kX3_widestLiving : ∀ (x0 : Nat) (w : ab_W) (r : Int32) (w1 : ab_W), sX3_widestLiving x0 w = some (r, w1) → gj_Mi yX3_widestLiving cX3_widestLiving 1 (some .int) 0 [.ref x0] w r w1 ∧ ab_is w 3 x0 = true := by
  intro x0 w r w1 h
  unfold sX3_widestLiving at h
  obtain ⟨hi, h⟩ := ab_ite h
  refine ⟨?_, hi⟩
  refine gj_Mi_of RX3 [some (.ref x0)] (by decide +kernel) rfl (Nat.le_of_ble_eq_true rfl) rfl (fun p l e s m args below meth c D ad tc A C => ?_)
  refine gj_aload_n C (pc' := 1) (i := 0) rfl dX3_widestLiving_0 rfl rfl ?_
  refine gj_getI C (pc' := 4) rfl dX3_widestLiving_1 wf_X3_15 h (fun v1 h => ?_)
  refine gj_tab C (tgt := 44) dX3_widestLiving_4 1 0 (by decide) (by decide) rfl (by decide) h (fun h => ?_) (fun n4_0 h => ?_)
  · refine gj_iconst C (pc' := 45) (v := 4) rfl dX3_widestLiving_44 (by decide) ?_
    refine gj_aload_n C (pc' := 46) (i := 0) rfl dX3_widestLiving_45 rfl rfl ?_
    refine gj_getI C (pc' := 49) rfl dX3_widestLiving_46 wf_X3_19 h (fun v2 h => ?_)
    refine gj_iconst C (pc' := 50) (v := 3) rfl dX3_widestLiving_49 (by decide) ?_
    refine gj_irem C (pc' := 51) rfl dX3_widestLiving_50 h (fun v3 h => ?_)
    refine gj_iadd C (pc' := 52) rfl dX3_widestLiving_51 ?_
    exact gj_iret C dX3_widestLiving_52 h
  refine gj_tab C (tgt := 53) dX3_widestLiving_4 2 1 (by decide) (by decide) rfl (by decide) h (fun h => ?_) (fun n4_1 h => ?_)
  · refine gj_iconst C (pc' := 54) (v := 5) rfl dX3_widestLiving_53 (by decide) ?_
    exact gj_iret C dX3_widestLiving_54 h
  refine gj_tab C (tgt := 55) dX3_widestLiving_4 3 2 (by decide) (by decide) rfl (by decide) h (fun h => ?_) (fun n4_2 h => ?_)
  · refine gj_iconst C (pc' := 56) (v := 3) rfl dX3_widestLiving_55 (by decide) ?_
    exact gj_iret C dX3_widestLiving_56 h
  refine gj_tab C (tgt := 44) dX3_widestLiving_4 4 3 (by decide) (by decide) rfl (by decide) h (fun h => ?_) (fun n4_3 h => ?_)
  · refine gj_iconst C (pc' := 45) (v := 4) rfl dX3_widestLiving_44 (by decide) ?_
    refine gj_aload_n C (pc' := 46) (i := 0) rfl dX3_widestLiving_45 rfl rfl ?_
    refine gj_getI C (pc' := 49) rfl dX3_widestLiving_46 wf_X3_19 h (fun v4 h => ?_)
    refine gj_iconst C (pc' := 50) (v := 3) rfl dX3_widestLiving_49 (by decide) ?_
    refine gj_irem C (pc' := 51) rfl dX3_widestLiving_50 h (fun v5 h => ?_)
    refine gj_iadd C (pc' := 52) rfl dX3_widestLiving_51 ?_
    exact gj_iret C dX3_widestLiving_52 h
  refine gj_tab C (tgt := 53) dX3_widestLiving_4 5 4 (by decide) (by decide) rfl (by decide) h (fun h => ?_) (fun n4_4 h => ?_)
  · refine gj_iconst C (pc' := 54) (v := 5) rfl dX3_widestLiving_53 (by decide) ?_
    exact gj_iret C dX3_widestLiving_54 h
  refine gj_tab C (tgt := 57) dX3_widestLiving_4 6 5 (by decide) (by decide) rfl (by decide) h (fun h => ?_) (fun n4_5 h => ?_)
  · refine gj_bipush C (pc' := 59) (v := 6) rfl dX3_widestLiving_57 (by decide) ?_
    exact gj_iret C dX3_widestLiving_59 h
  refine gj_tabD C (tgt := 60) dX3_widestLiving_4 (by decide) (gj_tout _ 1 6 (fun j hj => match j, hj with | 0, _ => lv_neT n4_0 (by decide) | 1, _ => lv_neT n4_1 (by decide) | 2, _ => lv_neT n4_2 (by decide) | 3, _ => lv_neT n4_3 (by decide) | 4, _ => lv_neT n4_4 (by decide) | 5, _ => lv_neT n4_5 (by decide) | j + 6, hj => absurd hj (by omega))) ?_
  refine gj_iconst C (pc' := 61) (v := 4) rfl dX3_widestLiving_60 (by decide) ?_
  exact gj_iret C dX3_widestLiving_61 h
set_option maxHeartbeats 4000000 in
set_option maxRecDepth 100000 in
theorem kX6_live : ∀ (x0 : Nat) (x1 : Nat) (x2 : Int32) (w : ab_W) (r : Int32) (w1 : ab_W), sX6_live x0 x1 x2 w = some (r, w1) → gj_Mi yX6_live cX6_live 3 (some .boolean) 1 [.ref x0, .ref x1, .int x2] w r w1 ∧ ab_is w 6 x0 = true := by
  intro x0 x1 x2 w r w1 h
  unfold sX6_live at h
  obtain ⟨hi, h⟩ := ab_ite h
  refine ⟨?_, hi⟩
  refine gj_Mi_of RX6 [some (.ref x0), some (.ref x1), some (.int x2)] (by decide +kernel) rfl (Nat.le_of_ble_eq_true rfl) rfl (fun p l e s m args below meth c D ad tc A C => ?_)
  refine gj_iload_n C (pc' := 1) (i := 2) rfl dX6_live_0 rfl rfl ?_
  refine gj_if_eq C (pc' := 4) (tgt := 21) rfl dX6_live_1 rfl h (fun h => ?_) (fun h => ?_)
  · refine gj_iconst C (pc' := 22) (v := 0) rfl dX6_live_21 (by decide) ?_
    exact gj_zret C dX6_live_22 h
  · refine gj_aload_n C (pc' := 5) (i := 0) rfl dX6_live_4 rfl rfl ?_
    refine gj_getR C (pc' := 8) rfl dX6_live_5 wf_X6_9 h (fun v1 h => ?_)
    refine gj_iload_n C (pc' := 9) (i := 2) rfl dX6_live_8 rfl rfl ?_
    refine gj_iald C (pc' := 10) rfl dX6_live_9 h (fun v2 h => ?_)
    refine gj_aload_n C (pc' := 11) (i := 1) rfl dX6_live_10 rfl rfl ?_
    refine gj_callVi C (pc' := 14) rfl dX6_live_11 wm_X6_46 uX3_widestLiving h (kX3_widestLiving _ _) (by omega) rfl rfl (Nat.le_of_ble_eq_true rfl) (fun v3 w4 h => ?_)
    refine gj_icmp_gt C (pc' := 17) (tgt := 21) rfl dX6_live_14 rfl h (fun h => ?_) (fun h => ?_)
    · refine gj_iconst C (pc' := 22) (v := 0) rfl dX6_live_21 (by decide) ?_
      exact gj_zret C dX6_live_22 h
    · refine gj_iconst C (pc' := 18) (v := 1) rfl dX6_live_17 (by decide) ?_
      refine gj_goto C (tgt := 22) dX6_live_18 rfl ?_
      exact gj_zret C dX6_live_22 h
set_option maxHeartbeats 4000000 in
set_option maxRecDepth 100000 in
theorem kX9_ofPaper_21 {p : Program} {l : Launch} {e : Env} {s : State} {m : MethodId} {args : Array Value} {below : List Frame} {meth : Method} {c : Code} {D : va_G} {ad : Nat → Nat} {tc : Nat → ClassId} {A : Nat → Prop} (C : gj_C p s m args meth c D ad tc A cX9_ofPaper 4 (some .int) RX9) {r : Int32} {w1 : ab_W} {x0 : Nat} {w : ab_W} (h : sX9_ofPaper_21 x0 w = some (r, w1)) : gj_G p l e (gj_R 2) s m args below meth c D ad tc A 4 (gj_Qi D ad tc A below args s r w1) 21 [some (.ref x0), none, none, none] [] w := by
  unfold sX9_ofPaper_21 at h
  refine gj_aload_n C (pc' := 22) (i := 0) rfl dX9_ofPaper_21 rfl rfl ?_
  refine gj_iconst C (pc' := 23) (v := 1) rfl dX9_ofPaper_22 (by decide) ?_
  refine gj_callVi C (pc' := 26) rfl dX9_ofPaper_23 wm_X9_66 uX9_fail h (kX9_fail _ _ _) (by omega) rfl rfl (Nat.le_of_ble_eq_true rfl) (fun v1 w2 h => ?_)
  exact gj_iret C dX9_ofPaper_26 h
set_option maxHeartbeats 4000000 in
set_option maxRecDepth 100000 in
theorem kX9_ofPaper : ∀ (x0 : Nat) (x1 : Int32) (x2 : Int32) (w : ab_W) (r : Int32) (w1 : ab_W), sX9_ofPaper x0 x1 x2 w = some (r, w1) → gj_Mi yX9_ofPaper cX9_ofPaper 4 (some .int) 2 [.ref x0, .int x1, .int x2] w r w1 ∧ ab_is w 9 x0 = true := by
  intro x0 x1 x2 w r w1 h
  unfold sX9_ofPaper at h
  obtain ⟨hi, h⟩ := ab_ite h
  refine ⟨?_, hi⟩
  refine gj_Mi_of RX9 [some (.ref x0), some (.int x1), some (.int x2), none] (by decide +kernel) rfl (Nat.le_of_ble_eq_true rfl) rfl (fun p l e s m args below meth c D ad tc A C => ?_)
  refine gj_aload_n C (pc' := 1) (i := 0) rfl dX9_ofPaper_0 rfl rfl ?_
  refine gj_getR C (pc' := 4) rfl dX9_ofPaper_1 wf_X9_30 h (fun v1 h => ?_)
  refine gj_iload_n C (pc' := 5) (i := 1) rfl dX9_ofPaper_4 rfl rfl ?_
  refine gj_callVi C (pc' := 8) rfl dX9_ofPaper_5 wm_X9_77 uX0_has h (kX0_has _ _ _) (by omega) rfl rfl (Nat.le_of_ble_eq_true rfl) (fun v2 w3 h => ?_)
  refine gj_if_eq C (pc' := 11) (tgt := 21) rfl dX9_ofPaper_8 rfl h (fun h => ?_) (fun h => ?_)
  · refine gj_drop (lv' := [some _, none, none, none]) (And.intro rfl True.intro) ?_
    exact kX9_ofPaper_21 C h
  · refine gj_iload_n C (pc' := 12) (i := 2) rfl dX9_ofPaper_11 rfl rfl ?_
    refine gj_iconst C (pc' := 13) (v := 0) rfl dX9_ofPaper_12 (by decide) ?_
    refine gj_bipush C (pc' := 15) (v := 9) rfl dX9_ofPaper_13 (by decide) ?_
    refine gj_callSi C (pc' := 18) rfl dX9_ofPaper_15 wm_X9_62 uX9_within h (kX9_within _ _ _ _) (by omega) rfl rfl (Nat.le_of_ble_eq_true rfl) (fun v4 w5 h => ?_)
    refine gj_if_ne C (pc' := 21) (tgt := 27) rfl dX9_ofPaper_18 rfl h (fun h => ?_) (fun h => ?_)
    · refine gj_drop (lv' := [some _, none, none, none]) (And.intro rfl True.intro) ?_
      exact kX9_ofPaper_21 C h
    · refine gj_aload_n C (pc' := 28) (i := 0) rfl dX9_ofPaper_27 rfl rfl ?_
      refine gj_getR C (pc' := 31) rfl dX9_ofPaper_28 wf_X9_30 h (fun v6 h => ?_)
      refine gj_getR C (pc' := 34) rfl dX9_ofPaper_31 wf_X9_81 h (fun v7 h => ?_)
      refine gj_iload_n C (pc' := 35) (i := 1) rfl dX9_ofPaper_34 rfl rfl ?_
      refine gj_rald C (pc' := 36) (t := 1) rfl dX9_ofPaper_35 rfl h (fun v8 h => ?_)
      refine gj_astore_n C (pc' := 37) (i := 3) (lv' := [_, _, _, _]) rfl dX9_ofPaper_36 rfl (by decide) rfl rfl ?_
      refine gj_iload_n C (pc' := 38) (i := 2) rfl dX9_ofPaper_37 rfl rfl ?_
      refine gj_tab C (tgt := 88) dX9_ofPaper_38 0 0 (by decide) (by decide) rfl (by decide) h (fun h => ?_) (fun n38_0 h => ?_)
      · refine gj_aload_n C (pc' := 89) (i := 3) rfl dX9_ofPaper_88 rfl rfl ?_
        refine gj_getI C (pc' := 92) rfl dX9_ofPaper_89 wf_X9_85 h (fun v9 h => ?_)
        exact gj_iret C dX9_ofPaper_92 h
      refine gj_tab C (tgt := 93) dX9_ofPaper_38 1 1 (by decide) (by decide) rfl (by decide) h (fun h => ?_) (fun n38_1 h => ?_)
      · refine gj_aload_n C (pc' := 94) (i := 3) rfl dX9_ofPaper_93 rfl rfl ?_
        refine gj_getI C (pc' := 97) rfl dX9_ofPaper_94 wf_X9_90 h (fun v10 h => ?_)
        exact gj_iret C dX9_ofPaper_97 h
      refine gj_tab C (tgt := 98) dX9_ofPaper_38 2 2 (by decide) (by decide) rfl (by decide) h (fun h => ?_) (fun n38_2 h => ?_)
      · refine gj_aload_n C (pc' := 99) (i := 3) rfl dX9_ofPaper_98 rfl rfl ?_
        refine gj_getI C (pc' := 102) rfl dX9_ofPaper_99 wf_X9_93 h (fun v11 h => ?_)
        exact gj_iret C dX9_ofPaper_102 h
      refine gj_tab C (tgt := 103) dX9_ofPaper_38 3 3 (by decide) (by decide) rfl (by decide) h (fun h => ?_) (fun n38_3 h => ?_)
      · refine gj_aload_n C (pc' := 104) (i := 3) rfl dX9_ofPaper_103 rfl rfl ?_
        refine gj_getI C (pc' := 107) rfl dX9_ofPaper_104 wf_X9_96 h (fun v12 h => ?_)
        exact gj_iret C dX9_ofPaper_107 h
      refine gj_tab C (tgt := 108) dX9_ofPaper_38 4 4 (by decide) (by decide) rfl (by decide) h (fun h => ?_) (fun n38_4 h => ?_)
      · refine gj_aload_n C (pc' := 109) (i := 3) rfl dX9_ofPaper_108 rfl rfl ?_
        refine gj_getI C (pc' := 112) rfl dX9_ofPaper_109 wf_X9_99 h (fun v13 h => ?_)
        refine gj_if_eq C (pc' := 115) (tgt := 119) rfl dX9_ofPaper_112 rfl h (fun h => ?_) (fun h => ?_)
        · refine gj_iconst C (pc' := 120) (v := 0) rfl dX9_ofPaper_119 (by decide) ?_
          exact gj_iret C dX9_ofPaper_120 h
        · refine gj_iconst C (pc' := 116) (v := 1) rfl dX9_ofPaper_115 (by decide) ?_
          refine gj_goto C (tgt := 120) dX9_ofPaper_116 rfl ?_
          exact gj_iret C dX9_ofPaper_120 h
      refine gj_tab C (tgt := 121) dX9_ofPaper_38 5 5 (by decide) (by decide) rfl (by decide) h (fun h => ?_) (fun n38_5 h => ?_)
      · refine gj_aload_n C (pc' := 122) (i := 3) rfl dX9_ofPaper_121 rfl rfl ?_
        refine gj_getI C (pc' := 125) rfl dX9_ofPaper_122 wf_X9_103 h (fun v14 h => ?_)
        exact gj_iret C dX9_ofPaper_125 h
      refine gj_tab C (tgt := 126) dX9_ofPaper_38 6 6 (by decide) (by decide) rfl (by decide) h (fun h => ?_) (fun n38_6 h => ?_)
      · refine gj_aload_n C (pc' := 127) (i := 0) rfl dX9_ofPaper_126 rfl rfl ?_
        refine gj_getR C (pc' := 130) rfl dX9_ofPaper_127 wf_X9_23 h (fun v15 h => ?_)
        refine gj_getR C (pc' := 133) rfl dX9_ofPaper_130 wf_X9_106 h (fun v16 h => ?_)
        refine gj_aload_n C (pc' := 134) (i := 3) rfl dX9_ofPaper_133 rfl rfl ?_
        refine gj_getI C (pc' := 137) rfl dX9_ofPaper_134 wf_X9_96 h (fun v17 h => ?_)
        refine gj_iald C (pc' := 138) rfl dX9_ofPaper_137 h (fun v18 h => ?_)
        exact gj_iret C dX9_ofPaper_138 h
      refine gj_tab C (tgt := 139) dX9_ofPaper_38 7 7 (by decide) (by decide) rfl (by decide) h (fun h => ?_) (fun n38_7 h => ?_)
      · refine gj_aload_n C (pc' := 140) (i := 0) rfl dX9_ofPaper_139 rfl rfl ?_
        refine gj_getR C (pc' := 143) rfl dX9_ofPaper_140 wf_X9_23 h (fun v19 h => ?_)
        refine gj_getR C (pc' := 146) rfl dX9_ofPaper_143 wf_X9_109 h (fun v20 h => ?_)
        refine gj_aload_n C (pc' := 147) (i := 3) rfl dX9_ofPaper_146 rfl rfl ?_
        refine gj_getI C (pc' := 150) rfl dX9_ofPaper_147 wf_X9_96 h (fun v21 h => ?_)
        refine gj_iald C (pc' := 151) rfl dX9_ofPaper_150 h (fun v22 h => ?_)
        exact gj_iret C dX9_ofPaper_151 h
      refine gj_tab C (tgt := 152) dX9_ofPaper_38 8 8 (by decide) (by decide) rfl (by decide) h (fun h => ?_) (fun n38_8 h => ?_)
      · refine gj_aload_n C (pc' := 153) (i := 3) rfl dX9_ofPaper_152 rfl rfl ?_
        refine gj_callVi C (pc' := 156) rfl dX9_ofPaper_153 wm_X9_112 uX3_stiff h (kX3_stiff _ _) (by omega) rfl rfl (Nat.le_of_ble_eq_true rfl) (fun v23 w24 h => ?_)
        exact gj_iret C dX9_ofPaper_156 h
      refine gj_tabD C (tgt := 157) dX9_ofPaper_38 (by decide) (gj_tout _ 0 9 (fun j hj => match j, hj with | 0, _ => lv_neT n38_0 (by decide) | 1, _ => lv_neT n38_1 (by decide) | 2, _ => lv_neT n38_2 (by decide) | 3, _ => lv_neT n38_3 (by decide) | 4, _ => lv_neT n38_4 (by decide) | 5, _ => lv_neT n38_5 (by decide) | 6, _ => lv_neT n38_6 (by decide) | 7, _ => lv_neT n38_7 (by decide) | 8, _ => lv_neT n38_8 (by decide) | j + 9, hj => absurd hj (by omega))) ?_
      refine gj_aload_n C (pc' := 158) (i := 0) rfl dX9_ofPaper_157 rfl rfl ?_
      refine gj_getR C (pc' := 161) rfl dX9_ofPaper_158 wf_X9_23 h (fun v25 h => ?_)
      refine gj_aload_n C (pc' := 162) (i := 3) rfl dX9_ofPaper_161 rfl rfl ?_
      refine gj_aload_n C (pc' := 163) (i := 3) rfl dX9_ofPaper_162 rfl rfl ?_
      refine gj_getI C (pc' := 166) rfl dX9_ofPaper_163 wf_X9_96 h (fun v26 h => ?_)
      refine gj_callVi C (pc' := 169) rfl dX9_ofPaper_166 wm_X9_116 uX6_live h (kX6_live _ _ _ _) (by omega) rfl rfl (Nat.le_of_ble_eq_true rfl) (fun v27 w28 h => ?_)
      refine gj_if_eq C (pc' := 172) (tgt := 176) rfl dX9_ofPaper_169 rfl h (fun h => ?_) (fun h => ?_)
      · refine gj_iconst C (pc' := 177) (v := 0) rfl dX9_ofPaper_176 (by decide) ?_
        exact gj_iret C dX9_ofPaper_177 h
      · refine gj_iconst C (pc' := 173) (v := 1) rfl dX9_ofPaper_172 (by decide) ?_
        refine gj_goto C (tgt := 177) dX9_ofPaper_173 rfl ?_
        exact gj_iret C dX9_ofPaper_177 h
set_option maxHeartbeats 4000000 in
set_option maxRecDepth 100000 in
theorem kX9_mostOf : ∀ (x0 : Int32) (w : ab_W) (r : Int32) (w1 : ab_W), sX9_mostOf x0 w = some (r, w1) → gj_Mi yX9_mostOf cX9_mostOf 1 (some .int) 0 [.int x0] w r w1 := by
  intro x0 w r w1 h
  unfold sX9_mostOf at h
  refine gj_Mi_of RX9 [some (.int x0)] (by decide +kernel) rfl (Nat.le_of_ble_eq_true rfl) rfl (fun p l e s m args below meth c D ad tc A C => ?_)
  refine gj_iload_n C (pc' := 1) (i := 0) rfl dX9_mostOf_0 rfl rfl ?_
  refine gj_if_ne C (pc' := 4) (tgt := 8) rfl dX9_mostOf_1 rfl h (fun h => ?_) (fun h => ?_)
  · refine gj_sipush C (pc' := 7) (v := 9999) rfl dX9_mostOf_4 (by decide) ?_
    exact gj_iret C dX9_mostOf_7 h
  · refine gj_iload_n C (pc' := 9) (i := 0) rfl dX9_mostOf_8 rfl rfl ?_
    refine gj_iconst C (pc' := 10) (v := 1) rfl dX9_mostOf_9 (by decide) ?_
    refine gj_icmp_ne C (pc' := 13) (tgt := 17) rfl dX9_mostOf_10 rfl h (fun h => ?_) (fun h => ?_)
    · refine gj_iconst C (pc' := 14) (v := 1) rfl dX9_mostOf_13 (by decide) ?_
      refine gj_goto C (tgt := 20) dX9_mostOf_14 rfl ?_
      exact gj_iret C dX9_mostOf_20 h
    · refine gj_sipush C (pc' := 20) (v := 999) rfl dX9_mostOf_17 (by decide) ?_
      exact gj_iret C dX9_mostOf_20 h
set_option maxHeartbeats 4000000 in
set_option maxRecDepth 100000 in
theorem kX9_change_32 {p : Program} {l : Launch} {e : Env} {s : State} {m : MethodId} {args : Array Value} {below : List Frame} {meth : Method} {c : Code} {D : va_G} {ad : Nat → Nat} {tc : Nat → ClassId} {A : Nat → Prop} (C : gj_C p s m args meth c D ad tc A cX9_change 6 (some .int) RX9) {r : Int32} {w1 : ab_W} {x0 : Nat} {w : ab_W} (h : sX9_change_32 x0 w = some (r, w1)) : gj_G p l e (gj_R 2) s m args below meth c D ad tc A 6 (gj_Qi D ad tc A below args s r w1) 32 [some (.ref x0), none, none, none, none, none] [] w := by
  unfold sX9_change_32 at h
  refine gj_aload_n C (pc' := 33) (i := 0) rfl dX9_change_32 rfl rfl ?_
  refine gj_iconst C (pc' := 34) (v := 1) rfl dX9_change_33 (by decide) ?_
  refine gj_callVi C (pc' := 37) rfl dX9_change_34 wm_X9_66 uX9_fail h (kX9_fail _ _ _) (by omega) rfl rfl (Nat.le_of_ble_eq_true rfl) (fun v1 w2 h => ?_)
  exact gj_iret C dX9_change_37 h
set_option maxHeartbeats 4000000 in
set_option maxRecDepth 100000 in
theorem kX9_change_101 {p : Program} {l : Launch} {e : Env} {s : State} {m : MethodId} {args : Array Value} {below : List Frame} {meth : Method} {c : Code} {D : va_G} {ad : Nat → Nat} {tc : Nat → ClassId} {A : Nat → Prop} (C : gj_C p s m args meth c D ad tc A cX9_change 6 (some .int) RX9) {r : Int32} {w1 : ab_W} {x5 : Int32} {p0 : Nat} {p1 : Int32} {w : ab_W} (h : sX9_change_101 x5 p0 p1 w = some (r, w1)) : gj_G p l e (gj_R 2) s m args below meth c D ad tc A 6 (gj_Qi D ad tc A below args s r w1) 101 [none, none, none, none, none, some (.int x5)] [.int p1, .ref p0] w := by
  unfold sX9_change_101 at h
  refine gj_putZ C (pc' := 104) (ty := .int) rfl dX9_change_101 wf_X9_99 wp_X3_4 rfl h (fun w1 h => ?_)
  refine gj_goto C (tgt := 120) dX9_change_104 rfl ?_
  refine gj_iload C (pc' := 122) (i := 5) rfl dX9_change_120 rfl ?_
  exact gj_iret C dX9_change_122 h
set_option maxHeartbeats 4000000 in
set_option maxRecDepth 100000 in
theorem kX9_change_87 {p : Program} {l : Launch} {e : Env} {s : State} {m : MethodId} {args : Array Value} {below : List Frame} {meth : Method} {c : Code} {D : va_G} {ad : Nat → Nat} {tc : Nat → ClassId} {A : Nat → Prop} (C : gj_C p s m args meth c D ad tc A cX9_change 6 (some .int) RX9) {r : Int32} {w1 : ab_W} {x3 : Int32} {x4 : Nat} {p0 : Int32} {w : ab_W} (h : sX9_change_87 x3 x4 p0 w = some (r, w1)) : gj_G p l e (gj_R 2) s m args below meth c D ad tc A 6 (gj_Qi D ad tc A below args s r w1) 87 [none, none, none, some (.int x3), some (.ref x4), none] [.int p0] w := by
  unfold sX9_change_87 at h
  refine gj_istore C (pc' := 89) (i := 5) (lv' := [_, _, _, _, _, _]) rfl dX9_change_87 (by decide) rfl rfl ?_
  refine gj_aload C (pc' := 91) (i := 4) rfl dX9_change_89 rfl ?_
  refine gj_iload_n C (pc' := 92) (i := 3) rfl dX9_change_91 rfl rfl ?_
  refine gj_iconst C (pc' := 93) (v := 1) rfl dX9_change_92 (by decide) ?_
  refine gj_icmp_ne C (pc' := 96) (tgt := 100) rfl dX9_change_93 rfl h (fun h => ?_) (fun h => ?_)
  · refine gj_iconst C (pc' := 97) (v := 1) rfl dX9_change_96 (by decide) ?_
    refine gj_goto C (tgt := 101) dX9_change_97 rfl ?_
    refine gj_drop (lv' := [none, none, none, none, none, some _]) (And.intro rfl True.intro) ?_
    exact kX9_change_101 C h
  · refine gj_iconst C (pc' := 101) (v := 0) rfl dX9_change_100 (by decide) ?_
    refine gj_drop (lv' := [none, none, none, none, none, some _]) (And.intro rfl True.intro) ?_
    exact kX9_change_101 C h
set_option maxHeartbeats 4000000 in
set_option maxRecDepth 100000 in
theorem kX9_change : ∀ (x0 : Nat) (x1 : Int32) (x2 : Int32) (x3 : Int32) (w : ab_W) (r : Int32) (w1 : ab_W), sX9_change x0 x1 x2 x3 w = some (r, w1) → gj_Mi yX9_change cX9_change 6 (some .int) 2 [.ref x0, .int x1, .int x2, .int x3] w r w1 ∧ ab_is w 9 x0 = true := by
  intro x0 x1 x2 x3 w r w1 h
  unfold sX9_change at h
  obtain ⟨hi, h⟩ := ab_ite h
  refine ⟨?_, hi⟩
  refine gj_Mi_of RX9 [some (.ref x0), some (.int x1), some (.int x2), some (.int x3), none, none] (by decide +kernel) rfl (Nat.le_of_ble_eq_true rfl) rfl (fun p l e s m args below meth c D ad tc A C => ?_)
  refine gj_aload_n C (pc' := 1) (i := 0) rfl dX9_change_0 rfl rfl ?_
  refine gj_getR C (pc' := 4) rfl dX9_change_1 wf_X9_30 h (fun v1 h => ?_)
  refine gj_iload_n C (pc' := 5) (i := 1) rfl dX9_change_4 rfl rfl ?_
  refine gj_callVi C (pc' := 8) rfl dX9_change_5 wm_X9_77 uX0_has h (kX0_has _ _ _) (by omega) rfl rfl (Nat.le_of_ble_eq_true rfl) (fun v2 w3 h => ?_)
  refine gj_if_eq C (pc' := 11) (tgt := 32) rfl dX9_change_8 rfl h (fun h => ?_) (fun h => ?_)
  · refine gj_drop (lv' := [some _, none, none, none, none, none]) (And.intro rfl True.intro) ?_
    exact kX9_change_32 C h
  · refine gj_iload_n C (pc' := 12) (i := 2) rfl dX9_change_11 rfl rfl ?_
    refine gj_iconst C (pc' := 13) (v := 0) rfl dX9_change_12 (by decide) ?_
    refine gj_iconst C (pc' := 14) (v := 2) rfl dX9_change_13 (by decide) ?_
    refine gj_callSi C (pc' := 17) rfl dX9_change_14 wm_X9_62 uX9_within h (kX9_within _ _ _ _) (by omega) rfl rfl (Nat.le_of_ble_eq_true rfl) (fun v4 w5 h => ?_)
    refine gj_if_eq C (pc' := 20) (tgt := 32) rfl dX9_change_17 rfl h (fun h => ?_) (fun h => ?_)
    · refine gj_drop (lv' := [some _, none, none, none, none, none]) (And.intro rfl True.intro) ?_
      exact kX9_change_32 C h
    · refine gj_iload_n C (pc' := 21) (i := 3) rfl dX9_change_20 rfl rfl ?_
      refine gj_iconst C (pc' := 22) (v := 0) rfl dX9_change_21 (by decide) ?_
      refine gj_iload_n C (pc' := 23) (i := 2) rfl dX9_change_22 rfl rfl ?_
      refine gj_callSi C (pc' := 26) rfl dX9_change_23 wm_X9_120 uX9_mostOf h (kX9_mostOf _ _) (by omega) rfl rfl (Nat.le_of_ble_eq_true rfl) (fun v6 w7 h => ?_)
      refine gj_callSi C (pc' := 29) rfl dX9_change_26 wm_X9_62 uX9_within h (kX9_within _ _ _ _) (by omega) rfl rfl (Nat.le_of_ble_eq_true rfl) (fun v8 w9 h => ?_)
      refine gj_if_ne C (pc' := 32) (tgt := 38) rfl dX9_change_29 rfl h (fun h => ?_) (fun h => ?_)
      · refine gj_drop (lv' := [some _, none, none, none, none, none]) (And.intro rfl True.intro) ?_
        exact kX9_change_32 C h
      · refine gj_aload_n C (pc' := 39) (i := 0) rfl dX9_change_38 rfl rfl ?_
        refine gj_getR C (pc' := 42) rfl dX9_change_39 wf_X9_30 h (fun v10 h => ?_)
        refine gj_getR C (pc' := 45) rfl dX9_change_42 wf_X9_81 h (fun v11 h => ?_)
        refine gj_iload_n C (pc' := 46) (i := 1) rfl dX9_change_45 rfl rfl ?_
        refine gj_rald C (pc' := 47) (t := 1) rfl dX9_change_46 rfl h (fun v12 h => ?_)
        refine gj_astore C (pc' := 49) (i := 4) (lv' := [_, _, _, _, _, _]) rfl dX9_change_47 (by decide) rfl rfl ?_
        refine gj_iload_n C (pc' := 50) (i := 2) rfl dX9_change_49 rfl rfl ?_
        refine gj_if_ne C (pc' := 53) (tgt := 69) rfl dX9_change_50 rfl h (fun h => ?_) (fun h => ?_)
        · refine gj_aload C (pc' := 55) (i := 4) rfl dX9_change_53 rfl ?_
          refine gj_getI C (pc' := 58) rfl dX9_change_55 wf_X9_93 h (fun v13 h => ?_)
          refine gj_istore C (pc' := 60) (i := 5) (lv' := [_, _, _, _, _, _]) rfl dX9_change_58 (by decide) rfl rfl ?_
          refine gj_aload C (pc' := 62) (i := 4) rfl dX9_change_60 rfl ?_
          refine gj_iload_n C (pc' := 63) (i := 3) rfl dX9_change_62 rfl rfl ?_
          refine gj_putI C (pc' := 66) (ty := .int) rfl dX9_change_63 wf_X9_93 wp_X3_2 rfl h (fun w14 h => ?_)
          refine gj_goto C (tgt := 120) dX9_change_66 rfl ?_
          refine gj_iload C (pc' := 122) (i := 5) rfl dX9_change_120 rfl ?_
          exact gj_iret C dX9_change_122 h
        · refine gj_iload_n C (pc' := 70) (i := 2) rfl dX9_change_69 rfl rfl ?_
          refine gj_iconst C (pc' := 71) (v := 1) rfl dX9_change_70 (by decide) ?_
          refine gj_icmp_ne C (pc' := 74) (tgt := 107) rfl dX9_change_71 rfl h (fun h => ?_) (fun h => ?_)
          · refine gj_aload C (pc' := 76) (i := 4) rfl dX9_change_74 rfl ?_
            refine gj_getI C (pc' := 79) rfl dX9_change_76 wf_X9_99 h (fun v15 h => ?_)
            refine gj_if_eq C (pc' := 82) (tgt := 86) rfl dX9_change_79 rfl h (fun h => ?_) (fun h => ?_)
            · refine gj_iconst C (pc' := 87) (v := 0) rfl dX9_change_86 (by decide) ?_
              refine gj_drop (lv' := [none, none, none, some _, some _, none]) (And.intro rfl (And.intro rfl True.intro)) ?_
              exact kX9_change_87 C h
            · refine gj_iconst C (pc' := 83) (v := 1) rfl dX9_change_82 (by decide) ?_
              refine gj_goto C (tgt := 87) dX9_change_83 rfl ?_
              refine gj_drop (lv' := [none, none, none, some _, some _, none]) (And.intro rfl (And.intro rfl True.intro)) ?_
              exact kX9_change_87 C h
          · refine gj_aload C (pc' := 109) (i := 4) rfl dX9_change_107 rfl ?_
            refine gj_getI C (pc' := 112) rfl dX9_change_109 wf_X9_103 h (fun v16 h => ?_)
            refine gj_istore C (pc' := 114) (i := 5) (lv' := [_, _, _, _, _, _]) rfl dX9_change_112 (by decide) rfl rfl ?_
            refine gj_aload C (pc' := 116) (i := 4) rfl dX9_change_114 rfl ?_
            refine gj_iload_n C (pc' := 117) (i := 3) rfl dX9_change_116 rfl rfl ?_
            refine gj_putI C (pc' := 120) (ty := .int) rfl dX9_change_117 wf_X9_103 wp_X3_5 rfl h (fun w17 h => ?_)
            refine gj_iload C (pc' := 122) (i := 5) rfl dX9_change_120 rfl ?_
            exact gj_iret C dX9_change_122 h
set_option maxHeartbeats 4000000 in
set_option maxRecDepth 100000 in
theorem kX9_fold_21 {p : Program} {l : Launch} {e : Env} {s : State} {m : MethodId} {args : Array Value} {below : List Frame} {meth : Method} {c : Code} {D : va_G} {ad : Nat → Nat} {tc : Nat → ClassId} {A : Nat → Prop} (C : gj_C p s m args meth c D ad tc A cX9_fold 5 (some .int) RX9) {r : Int32} {w1 : ab_W} {x0 : Nat} {w : ab_W} (h : sX9_fold_21 x0 w = some (r, w1)) : gj_G p l e (gj_R 2) s m args below meth c D ad tc A 5 (gj_Qi D ad tc A below args s r w1) 21 [some (.ref x0), none, none, none, none] [] w := by
  unfold sX9_fold_21 at h
  refine gj_aload_n C (pc' := 22) (i := 0) rfl dX9_fold_21 rfl rfl ?_
  refine gj_iconst C (pc' := 23) (v := 1) rfl dX9_fold_22 (by decide) ?_
  refine gj_callVi C (pc' := 26) rfl dX9_fold_23 wm_X9_66 uX9_fail h (kX9_fail _ _ _) (by omega) rfl rfl (Nat.le_of_ble_eq_true rfl) (fun v1 w2 h => ?_)
  exact gj_iret C dX9_fold_26 h
set_option maxHeartbeats 4000000 in
set_option maxRecDepth 100000 in
theorem kX9_fold_71 {p : Program} {l : Launch} {e : Env} {s : State} {m : MethodId} {args : Array Value} {below : List Frame} {meth : Method} {c : Code} {D : va_G} {ad : Nat → Nat} {tc : Nat → ClassId} {A : Nat → Prop} (C : gj_C p s m args meth c D ad tc A cX9_fold 5 (some .int) RX9) {r : Int32} {w1 : ab_W} {x0 : Nat} {w : ab_W} (h : sX9_fold_71 x0 w = some (r, w1)) : gj_G p l e (gj_R 2) s m args below meth c D ad tc A 5 (gj_Qi D ad tc A below args s r w1) 71 [some (.ref x0), none, none, none, none] [] w := by
  unfold sX9_fold_71 at h
  refine gj_aload_n C (pc' := 72) (i := 0) rfl dX9_fold_71 rfl rfl ?_
  refine gj_iconst C (pc' := 73) (v := 3) rfl dX9_fold_72 (by decide) ?_
  refine gj_callVi C (pc' := 76) rfl dX9_fold_73 wm_X9_66 uX9_fail h (kX9_fail _ _ _) (by omega) rfl rfl (Nat.le_of_ble_eq_true rfl) (fun v1 w2 h => ?_)
  exact gj_iret C dX9_fold_76 h
set_option maxHeartbeats 4000000 in
set_option maxRecDepth 100000 in
theorem kX9_fold : ∀ (x0 : Nat) (x1 : Int32) (x2 : Int32) (w : ab_W) (r : Int32) (w1 : ab_W), sX9_fold x0 x1 x2 w = some (r, w1) → gj_Mi yX9_fold cX9_fold 5 (some .int) 2 [.ref x0, .int x1, .int x2] w r w1 ∧ ab_is w 9 x0 = true := by
  intro x0 x1 x2 w r w1 h
  unfold sX9_fold at h
  obtain ⟨hi, h⟩ := ab_ite h
  refine ⟨?_, hi⟩
  refine gj_Mi_of RX9 [some (.ref x0), some (.int x1), some (.int x2), none, none] (by decide +kernel) rfl (Nat.le_of_ble_eq_true rfl) rfl (fun p l e s m args below meth c D ad tc A C => ?_)
  refine gj_aload_n C (pc' := 1) (i := 0) rfl dX9_fold_0 rfl rfl ?_
  refine gj_getR C (pc' := 4) rfl dX9_fold_1 wf_X9_30 h (fun v1 h => ?_)
  refine gj_iload_n C (pc' := 5) (i := 1) rfl dX9_fold_4 rfl rfl ?_
  refine gj_callVi C (pc' := 8) rfl dX9_fold_5 wm_X9_77 uX0_has h (kX0_has _ _ _) (by omega) rfl rfl (Nat.le_of_ble_eq_true rfl) (fun v2 w3 h => ?_)
  refine gj_if_eq C (pc' := 11) (tgt := 21) rfl dX9_fold_8 rfl h (fun h => ?_) (fun h => ?_)
  · refine gj_drop (lv' := [some _, none, none, none, none]) (And.intro rfl True.intro) ?_
    exact kX9_fold_21 C h
  · refine gj_iload_n C (pc' := 12) (i := 2) rfl dX9_fold_11 rfl rfl ?_
    refine gj_iconst C (pc' := 13) (v := 0) rfl dX9_fold_12 (by decide) ?_
    refine gj_bipush C (pc' := 15) (v := 6) rfl dX9_fold_13 (by decide) ?_
    refine gj_callSi C (pc' := 18) rfl dX9_fold_15 wm_X9_62 uX9_within h (kX9_within _ _ _ _) (by omega) rfl rfl (Nat.le_of_ble_eq_true rfl) (fun v4 w5 h => ?_)
    refine gj_if_ne C (pc' := 21) (tgt := 27) rfl dX9_fold_18 rfl h (fun h => ?_) (fun h => ?_)
    · refine gj_drop (lv' := [some _, none, none, none, none]) (And.intro rfl True.intro) ?_
      exact kX9_fold_21 C h
    · refine gj_aload_n C (pc' := 28) (i := 0) rfl dX9_fold_27 rfl rfl ?_
      refine gj_getR C (pc' := 31) rfl dX9_fold_28 wf_X9_30 h (fun v6 h => ?_)
      refine gj_getR C (pc' := 34) rfl dX9_fold_31 wf_X9_81 h (fun v7 h => ?_)
      refine gj_iload_n C (pc' := 35) (i := 1) rfl dX9_fold_34 rfl rfl ?_
      refine gj_rald C (pc' := 36) (t := 1) rfl dX9_fold_35 rfl h (fun v8 h => ?_)
      refine gj_astore_n C (pc' := 37) (i := 3) (lv' := [_, _, _, _, _]) rfl dX9_fold_36 rfl (by decide) rfl rfl ?_
      refine gj_aload_n C (pc' := 38) (i := 3) rfl dX9_fold_37 rfl rfl ?_
      refine gj_getI C (pc' := 41) rfl dX9_fold_38 wf_X9_96 h (fun v9 h => ?_)
      refine gj_iconst C (pc' := 42) (v := 1) rfl dX9_fold_41 (by decide) ?_
      refine gj_iload_n C (pc' := 43) (i := 2) rfl dX9_fold_42 rfl rfl ?_
      refine gj_ishl C (pc' := 44) rfl dX9_fold_43 ?_
      refine gj_ixor C (pc' := 45) rfl dX9_fold_44 ?_
      refine gj_istore C (pc' := 47) (i := 4) (lv' := [_, _, _, _, _]) rfl dX9_fold_45 (by decide) rfl rfl ?_
      refine gj_aload_n C (pc' := 48) (i := 3) rfl dX9_fold_47 rfl rfl ?_
      refine gj_getI C (pc' := 51) rfl dX9_fold_48 wf_X9_99 h (fun v10 h => ?_)
      refine gj_if_ne C (pc' := 54) (tgt := 71) rfl dX9_fold_51 rfl h (fun h => ?_) (fun h => ?_)
      · refine gj_aload_n C (pc' := 55) (i := 0) rfl dX9_fold_54 rfl rfl ?_
        refine gj_getR C (pc' := 58) rfl dX9_fold_55 wf_X9_23 h (fun v11 h => ?_)
        refine gj_getR C (pc' := 61) rfl dX9_fold_58 wf_X9_109 h (fun v12 h => ?_)
        refine gj_iload C (pc' := 63) (i := 4) rfl dX9_fold_61 rfl ?_
        refine gj_iald C (pc' := 64) rfl dX9_fold_63 h (fun v13 h => ?_)
        refine gj_aload_n C (pc' := 65) (i := 3) rfl dX9_fold_64 rfl rfl ?_
        refine gj_callVi C (pc' := 68) rfl dX9_fold_65 wm_X9_112 uX3_stiff h (kX3_stiff _ _) (by omega) rfl rfl (Nat.le_of_ble_eq_true rfl) (fun v14 w15 h => ?_)
        refine gj_icmp_le C (pc' := 71) (tgt := 77) rfl dX9_fold_68 rfl h (fun h => ?_) (fun h => ?_)
        · refine gj_drop (lv' := [some _, none, none, none, none]) (And.intro rfl True.intro) ?_
          exact kX9_fold_71 C h
        · refine gj_aload_n C (pc' := 78) (i := 3) rfl dX9_fold_77 rfl rfl ?_
          refine gj_iload C (pc' := 80) (i := 4) rfl dX9_fold_78 rfl ?_
          refine gj_putI C (pc' := 83) (ty := .int) rfl dX9_fold_80 wf_X9_96 wp_X3_3 rfl h (fun w16 h => ?_)
          refine gj_aload_n C (pc' := 84) (i := 0) rfl dX9_fold_83 rfl rfl ?_
          refine gj_getR C (pc' := 87) rfl dX9_fold_84 wf_X9_23 h (fun v17 h => ?_)
          refine gj_getR C (pc' := 90) rfl dX9_fold_87 wf_X9_106 h (fun v18 h => ?_)
          refine gj_iload C (pc' := 92) (i := 4) rfl dX9_fold_90 rfl ?_
          refine gj_iald C (pc' := 93) rfl dX9_fold_92 h (fun v19 h => ?_)
          exact gj_iret C dX9_fold_93 h
      · refine gj_drop (lv' := [some _, none, none, none, none]) (And.intro rfl True.intro) ?_
        exact kX9_fold_71 C h
set_option maxHeartbeats 4000000 in
set_option maxRecDepth 100000 in
theorem kX9_release_49 {p : Program} {l : Launch} {e : Env} {s : State} {m : MethodId} {args : Array Value} {below : List Frame} {meth : Method} {c : Code} {D : va_G} {ad : Nat → Nat} {tc : Nat → ClassId} {A : Nat → Prop} (C : gj_C p s m args meth c D ad tc A cX9_release 3 (some .int) RX9) {r : Int32} {w1 : ab_W} {x0 : Nat} {w : ab_W} (h : sX9_release_49 x0 w = some (r, w1)) : gj_G p l e (gj_R 2) s m args below meth c D ad tc A 3 (gj_Qi D ad tc A below args s r w1) 49 [some (.ref x0), none, none] [] w := by
  unfold sX9_release_49 at h
  refine gj_aload_n C (pc' := 50) (i := 0) rfl dX9_release_49 rfl rfl ?_
  refine gj_iconst C (pc' := 51) (v := 3) rfl dX9_release_50 (by decide) ?_
  refine gj_callVi C (pc' := 54) rfl dX9_release_51 wm_X9_66 uX9_fail h (kX9_fail _ _ _) (by omega) rfl rfl (Nat.le_of_ble_eq_true rfl) (fun v1 w2 h => ?_)
  exact gj_iret C dX9_release_54 h
set_option maxHeartbeats 4000000 in
set_option maxRecDepth 100000 in
theorem kX9_release : ∀ (x0 : Nat) (x1 : Int32) (w : ab_W) (r : Int32) (w1 : ab_W), sX9_release x0 x1 w = some (r, w1) → gj_Mi yX9_release cX9_release 3 (some .int) 2 [.ref x0, .int x1] w r w1 ∧ ab_is w 9 x0 = true := by
  intro x0 x1 w r w1 h
  unfold sX9_release at h
  obtain ⟨hi, h⟩ := ab_ite h
  refine ⟨?_, hi⟩
  refine gj_Mi_of RX9 [some (.ref x0), some (.int x1), none] (by decide +kernel) rfl (Nat.le_of_ble_eq_true rfl) rfl (fun p l e s m args below meth c D ad tc A C => ?_)
  refine gj_aload_n C (pc' := 1) (i := 0) rfl dX9_release_0 rfl rfl ?_
  refine gj_getR C (pc' := 4) rfl dX9_release_1 wf_X9_30 h (fun v1 h => ?_)
  refine gj_iload_n C (pc' := 5) (i := 1) rfl dX9_release_4 rfl rfl ?_
  refine gj_callVi C (pc' := 8) rfl dX9_release_5 wm_X9_77 uX0_has h (kX0_has _ _ _) (by omega) rfl rfl (Nat.le_of_ble_eq_true rfl) (fun v2 w3 h => ?_)
  refine gj_if_ne C (pc' := 11) (tgt := 17) rfl dX9_release_8 rfl h (fun h => ?_) (fun h => ?_)
  · refine gj_aload_n C (pc' := 12) (i := 0) rfl dX9_release_11 rfl rfl ?_
    refine gj_iconst C (pc' := 13) (v := 1) rfl dX9_release_12 (by decide) ?_
    refine gj_callVi C (pc' := 16) rfl dX9_release_13 wm_X9_66 uX9_fail h (kX9_fail _ _ _) (by omega) rfl rfl (Nat.le_of_ble_eq_true rfl) (fun v4 w5 h => ?_)
    exact gj_iret C dX9_release_16 h
  · refine gj_aload_n C (pc' := 18) (i := 0) rfl dX9_release_17 rfl rfl ?_
    refine gj_getR C (pc' := 21) rfl dX9_release_18 wf_X9_30 h (fun v6 h => ?_)
    refine gj_getR C (pc' := 24) rfl dX9_release_21 wf_X9_81 h (fun v7 h => ?_)
    refine gj_iload_n C (pc' := 25) (i := 1) rfl dX9_release_24 rfl rfl ?_
    refine gj_rald C (pc' := 26) (t := 1) rfl dX9_release_25 rfl h (fun v8 h => ?_)
    refine gj_astore_n C (pc' := 27) (i := 2) (lv' := [_, _, _]) rfl dX9_release_26 rfl (by decide) rfl rfl ?_
    refine gj_aload_n C (pc' := 28) (i := 2) rfl dX9_release_27 rfl rfl ?_
    refine gj_getI C (pc' := 31) rfl dX9_release_28 wf_X9_99 h (fun v9 h => ?_)
    refine gj_if_ne C (pc' := 34) (tgt := 49) rfl dX9_release_31 rfl h (fun h => ?_) (fun h => ?_)
    · refine gj_aload_n C (pc' := 35) (i := 0) rfl dX9_release_34 rfl rfl ?_
      refine gj_getR C (pc' := 38) rfl dX9_release_35 wf_X9_23 h (fun v10 h => ?_)
      refine gj_aload_n C (pc' := 39) (i := 2) rfl dX9_release_38 rfl rfl ?_
      refine gj_aload_n C (pc' := 40) (i := 2) rfl dX9_release_39 rfl rfl ?_
      refine gj_getI C (pc' := 43) rfl dX9_release_40 wf_X9_96 h (fun v11 h => ?_)
      refine gj_callVi C (pc' := 46) rfl dX9_release_43 wm_X9_116 uX6_live h (kX6_live _ _ _ _) (by omega) rfl rfl (Nat.le_of_ble_eq_true rfl) (fun v12 w13 h => ?_)
      refine gj_if_ne C (pc' := 49) (tgt := 55) rfl dX9_release_46 rfl h (fun h => ?_) (fun h => ?_)
      · refine gj_drop (lv' := [some _, none, none]) (And.intro rfl True.intro) ?_
        exact kX9_release_49 C h
      · refine gj_aload_n C (pc' := 56) (i := 2) rfl dX9_release_55 rfl rfl ?_
        refine gj_iconst C (pc' := 57) (v := 1) rfl dX9_release_56 (by decide) ?_
        refine gj_putZ C (pc' := 60) (ty := .int) rfl dX9_release_57 wf_X9_99 wp_X3_4 rfl h (fun w14 h => ?_)
        refine gj_aload_n C (pc' := 61) (i := 2) rfl dX9_release_60 rfl rfl ?_
        refine gj_getI C (pc' := 64) rfl dX9_release_61 wf_X9_93 h (fun v15 h => ?_)
        exact gj_iret C dX9_release_64 h
    · refine gj_drop (lv' := [some _, none, none]) (And.intro rfl True.intro) ?_
      exact kX9_release_49 C h
set_option maxHeartbeats 4000000 in
set_option maxRecDepth 100000 in
theorem kX9_wind : ∀ (x0 : Nat) (x1 : Int32) (w : ab_W) (r : Int32) (w1 : ab_W), sX9_wind x0 x1 w = some (r, w1) → gj_Mi yX9_wind cX9_wind 3 (some .int) 2 [.ref x0, .int x1] w r w1 ∧ ab_is w 9 x0 = true := by
  intro x0 x1 w r w1 h
  unfold sX9_wind at h
  obtain ⟨hi, h⟩ := ab_ite h
  refine ⟨?_, hi⟩
  refine gj_Mi_of RX9 [some (.ref x0), some (.int x1), none] (by decide +kernel) rfl (Nat.le_of_ble_eq_true rfl) rfl (fun p l e s m args below meth c D ad tc A C => ?_)
  refine gj_iload_n C (pc' := 1) (i := 1) rfl dX9_wind_0 rfl rfl ?_
  refine gj_iconst C (pc' := 2) (v := 0) rfl dX9_wind_1 (by decide) ?_
  refine gj_bipush C (pc' := 4) (v := 9) rfl dX9_wind_2 (by decide) ?_
  refine gj_callSi C (pc' := 7) rfl dX9_wind_4 wm_X9_62 uX9_within h (kX9_within _ _ _ _) (by omega) rfl rfl (Nat.le_of_ble_eq_true rfl) (fun v1 w2 h => ?_)
  refine gj_if_ne C (pc' := 10) (tgt := 16) rfl dX9_wind_7 rfl h (fun h => ?_) (fun h => ?_)
  · refine gj_aload_n C (pc' := 11) (i := 0) rfl dX9_wind_10 rfl rfl ?_
    refine gj_iconst C (pc' := 12) (v := 1) rfl dX9_wind_11 (by decide) ?_
    refine gj_callVi C (pc' := 15) rfl dX9_wind_12 wm_X9_66 uX9_fail h (kX9_fail _ _ _) (by omega) rfl rfl (Nat.le_of_ble_eq_true rfl) (fun v3 w4 h => ?_)
    exact gj_iret C dX9_wind_15 h
  · refine gj_aload_n C (pc' := 17) (i := 0) rfl dX9_wind_16 rfl rfl ?_
    refine gj_getR C (pc' := 20) rfl dX9_wind_17 wf_X9_30 h (fun v5 h => ?_)
    refine gj_getI C (pc' := 23) rfl dX9_wind_20 wf_X9_123 h (fun v6 h => ?_)
    refine gj_istore_n C (pc' := 24) (i := 2) (lv' := [_, _, _]) rfl dX9_wind_23 rfl (by decide) rfl rfl ?_
    refine gj_aload_n C (pc' := 25) (i := 0) rfl dX9_wind_24 rfl rfl ?_
    refine gj_getR C (pc' := 28) rfl dX9_wind_25 wf_X9_30 h (fun v7 h => ?_)
    refine gj_iload_n C (pc' := 29) (i := 1) rfl dX9_wind_28 rfl rfl ?_
    refine gj_putI C (pc' := 32) (ty := .int) rfl dX9_wind_29 wf_X9_123 wp_X0_6 rfl h (fun w8 h => ?_)
    refine gj_iload_n C (pc' := 33) (i := 2) rfl dX9_wind_32 rfl rfl ?_
    exact gj_iret C dX9_wind_33 h
set_option maxHeartbeats 4000000 in
set_option maxRecDepth 100000 in
theorem kX9_become_21 {p : Program} {l : Launch} {e : Env} {s : State} {m : MethodId} {args : Array Value} {below : List Frame} {meth : Method} {c : Code} {D : va_G} {ad : Nat → Nat} {tc : Nat → ClassId} {A : Nat → Prop} (C : gj_C p s m args meth c D ad tc A cX9_become 5 (some .int) RX9) {r : Int32} {w1 : ab_W} {x0 : Nat} {w : ab_W} (h : sX9_become_21 x0 w = some (r, w1)) : gj_G p l e (gj_R 2) s m args below meth c D ad tc A 5 (gj_Qi D ad tc A below args s r w1) 21 [some (.ref x0), none, none, none, none] [] w := by
  unfold sX9_become_21 at h
  refine gj_aload_n C (pc' := 22) (i := 0) rfl dX9_become_21 rfl rfl ?_
  refine gj_iconst C (pc' := 23) (v := 1) rfl dX9_become_22 (by decide) ?_
  refine gj_callVi C (pc' := 26) rfl dX9_become_23 wm_X9_66 uX9_fail h (kX9_fail _ _ _) (by omega) rfl rfl (Nat.le_of_ble_eq_true rfl) (fun v1 w2 h => ?_)
  exact gj_iret C dX9_become_26 h
set_option maxHeartbeats 4000000 in
set_option maxRecDepth 100000 in
theorem kX9_become : ∀ (x0 : Nat) (x1 : Int32) (x2 : Int32) (w : ab_W) (r : Int32) (w1 : ab_W), sX9_become x0 x1 x2 w = some (r, w1) → gj_Mi yX9_become cX9_become 5 (some .int) 2 [.ref x0, .int x1, .int x2] w r w1 ∧ ab_is w 9 x0 = true := by
  intro x0 x1 x2 w r w1 h
  unfold sX9_become at h
  obtain ⟨hi, h⟩ := ab_ite h
  refine ⟨?_, hi⟩
  refine gj_Mi_of RX9 [some (.ref x0), some (.int x1), some (.int x2), none, none] (by decide +kernel) rfl (Nat.le_of_ble_eq_true rfl) rfl (fun p l e s m args below meth c D ad tc A C => ?_)
  refine gj_aload_n C (pc' := 1) (i := 0) rfl dX9_become_0 rfl rfl ?_
  refine gj_getR C (pc' := 4) rfl dX9_become_1 wf_X9_30 h (fun v1 h => ?_)
  refine gj_iload_n C (pc' := 5) (i := 1) rfl dX9_become_4 rfl rfl ?_
  refine gj_callVi C (pc' := 8) rfl dX9_become_5 wm_X9_77 uX0_has h (kX0_has _ _ _) (by omega) rfl rfl (Nat.le_of_ble_eq_true rfl) (fun v2 w3 h => ?_)
  refine gj_if_eq C (pc' := 11) (tgt := 21) rfl dX9_become_8 rfl h (fun h => ?_) (fun h => ?_)
  · refine gj_drop (lv' := [some _, none, none, none, none]) (And.intro rfl True.intro) ?_
    exact kX9_become_21 C h
  · refine gj_iload_n C (pc' := 12) (i := 2) rfl dX9_become_11 rfl rfl ?_
    refine gj_iconst C (pc' := 13) (v := 0) rfl dX9_become_12 (by decide) ?_
    refine gj_bipush C (pc' := 15) (v := 69) rfl dX9_become_13 (by decide) ?_
    refine gj_callSi C (pc' := 18) rfl dX9_become_15 wm_X9_62 uX9_within h (kX9_within _ _ _ _) (by omega) rfl rfl (Nat.le_of_ble_eq_true rfl) (fun v4 w5 h => ?_)
    refine gj_if_ne C (pc' := 21) (tgt := 27) rfl dX9_become_18 rfl h (fun h => ?_) (fun h => ?_)
    · refine gj_drop (lv' := [some _, none, none, none, none]) (And.intro rfl True.intro) ?_
      exact kX9_become_21 C h
    · refine gj_aload_n C (pc' := 28) (i := 0) rfl dX9_become_27 rfl rfl ?_
      refine gj_getR C (pc' := 31) rfl dX9_become_28 wf_X9_30 h (fun v6 h => ?_)
      refine gj_getR C (pc' := 34) rfl dX9_become_31 wf_X9_81 h (fun v7 h => ?_)
      refine gj_iload_n C (pc' := 35) (i := 1) rfl dX9_become_34 rfl rfl ?_
      refine gj_rald C (pc' := 36) (t := 1) rfl dX9_become_35 rfl h (fun v8 h => ?_)
      refine gj_astore_n C (pc' := 37) (i := 3) (lv' := [_, _, _, _, _]) rfl dX9_become_36 rfl (by decide) rfl rfl ?_
      refine gj_aload_n C (pc' := 38) (i := 3) rfl dX9_become_37 rfl rfl ?_
      refine gj_getI C (pc' := 41) rfl dX9_become_38 wf_X9_85 h (fun v9 h => ?_)
      refine gj_istore C (pc' := 43) (i := 4) (lv' := [_, _, _, _, _]) rfl dX9_become_41 (by decide) rfl rfl ?_
      refine gj_aload_n C (pc' := 44) (i := 3) rfl dX9_become_43 rfl rfl ?_
      refine gj_iload_n C (pc' := 45) (i := 2) rfl dX9_become_44 rfl rfl ?_
      refine gj_bipush C (pc' := 47) (v := 10) rfl dX9_become_45 (by decide) ?_
      refine gj_idiv C (pc' := 48) rfl dX9_become_47 h (fun v10 h => ?_)
      refine gj_putI C (pc' := 51) (ty := .int) rfl dX9_become_48 wf_X9_85 wp_X3_0 rfl h (fun w11 h => ?_)
      refine gj_aload_n C (pc' := 52) (i := 3) rfl dX9_become_51 rfl rfl ?_
      refine gj_iload_n C (pc' := 53) (i := 2) rfl dX9_become_52 rfl rfl ?_
      refine gj_bipush C (pc' := 55) (v := 10) rfl dX9_become_53 (by decide) ?_
      refine gj_irem C (pc' := 56) rfl dX9_become_55 h (fun v12 h => ?_)
      refine gj_putI C (pc' := 59) (ty := .int) rfl dX9_become_56 wf_X9_90 wp_X3_1 rfl h (fun w13 h => ?_)
      refine gj_iload C (pc' := 61) (i := 4) rfl dX9_become_59 rfl ?_
      exact gj_iret C dX9_become_61 h
set_option maxHeartbeats 4000000 in
set_option maxRecDepth 100000 in
theorem kX9_isOfKind_4 {p : Program} {l : Launch} {e : Env} {s : State} {m : MethodId} {args : Array Value} {below : List Frame} {meth : Method} {c : Code} {D : va_G} {ad : Nat → Nat} {tc : Nat → ClassId} {A : Nat → Prop} (C : gj_C p s m args meth c D ad tc A cX9_isOfKind 4 (some .boolean) RX9) {r : Int32} {w1 : ab_W} : ∀ {n : Nat} {x1 : Int32} {x2 : Int32} {x3 : Int32} {w : ab_W}, sX9_isOfKind_4 n x1 x2 x3 w = some (r, w1) → gj_G p l e (gj_R 0) s m args below meth c D ad tc A 4 (gj_Qi D ad tc A below args s r w1) 4 [none, some (.int x1), some (.int x2), some (.int x3)] [] w := by
  intro n
  induction n with
  | zero =>
    intros
    rename_i h
    cases h
  | succ n ih =>
    intro x1 x2 x3 w h
    rw [sX9_isOfKind_4] at h
    refine gj_iload_n C (pc' := 5) (i := 3) rfl dX9_isOfKind_4 rfl rfl ?_
    refine gj_bipush C (pc' := 7) (v := 7) rfl dX9_isOfKind_5 (by decide) ?_
    refine gj_icmp_ge C (pc' := 10) (tgt := 39) rfl dX9_isOfKind_7 rfl h (fun h => ?_) (fun h => ?_)
    · refine gj_iload_n C (pc' := 11) (i := 2) rfl dX9_isOfKind_10 rfl rfl ?_
      refine gj_if_lt C (pc' := 14) (tgt := 39) rfl dX9_isOfKind_11 rfl h (fun h => ?_) (fun h => ?_)
      · refine gj_iconst C (pc' := 40) (v := 0) rfl dX9_isOfKind_39 (by decide) ?_
        exact gj_zret C dX9_isOfKind_40 h
      · refine gj_iload_n C (pc' := 15) (i := 2) rfl dX9_isOfKind_14 rfl rfl ?_
        refine gj_bipush C (pc' := 17) (v := 7) rfl dX9_isOfKind_15 (by decide) ?_
        refine gj_icmp_ge C (pc' := 20) (tgt := 39) rfl dX9_isOfKind_17 rfl h (fun h => ?_) (fun h => ?_)
        · refine gj_iload_n C (pc' := 21) (i := 2) rfl dX9_isOfKind_20 rfl rfl ?_
          refine gj_iload_n C (pc' := 22) (i := 1) rfl dX9_isOfKind_21 rfl rfl ?_
          refine gj_icmp_ne C (pc' := 25) (tgt := 27) rfl dX9_isOfKind_22 rfl h (fun h => ?_) (fun h => ?_)
          · refine gj_iconst C (pc' := 26) (v := 1) rfl dX9_isOfKind_25 (by decide) ?_
            exact gj_zret C dX9_isOfKind_26 h
          · refine gj_above C (pc' := 30) rfl dX9_isOfKind_27 ws_X9_314 ?_
            refine gj_iload_n C (pc' := 31) (i := 2) rfl dX9_isOfKind_30 rfl rfl ?_
            refine gj_aboveld C (pc' := 32) rfl dX9_isOfKind_31 h (fun v1 h => ?_)
            refine gj_istore_n C (pc' := 33) (i := 2) (lv' := [_, _, _, _]) rfl dX9_isOfKind_32 rfl (by decide) rfl rfl ?_
            refine gj_iinc C (pc' := 36) (i := 3) (v := _ + 1) (lv' := [_, _, _, _]) rfl dX9_isOfKind_33 rfl rfl (by decide) rfl rfl ?_
            refine gj_goto C (tgt := 4) dX9_isOfKind_36 rfl ?_
            refine gj_drop (lv' := [none, some _, some _, some _]) (And.intro rfl (And.intro rfl (And.intro rfl True.intro))) ?_
            exact ih h
        · refine gj_iconst C (pc' := 40) (v := 0) rfl dX9_isOfKind_39 (by decide) ?_
          exact gj_zret C dX9_isOfKind_40 h
    · refine gj_iconst C (pc' := 40) (v := 0) rfl dX9_isOfKind_39 (by decide) ?_
      exact gj_zret C dX9_isOfKind_40 h
set_option maxHeartbeats 4000000 in
set_option maxRecDepth 100000 in
theorem kX9_isOfKind : ∀ (x0 : Int32) (x1 : Int32) (w : ab_W) (r : Int32) (w1 : ab_W), sX9_isOfKind x0 x1 w = some (r, w1) → gj_Mi yX9_isOfKind cX9_isOfKind 4 (some .boolean) 0 [.int x0, .int x1] w r w1 := by
  intro x0 x1 w r w1 h
  unfold sX9_isOfKind at h
  refine gj_Mi_of RX9 [some (.int x0), some (.int x1), none, none] (by decide +kernel) rfl (Nat.le_of_ble_eq_true rfl) rfl (fun p l e s m args below meth c D ad tc A C => ?_)
  refine gj_iload_n C (pc' := 1) (i := 0) rfl dX9_isOfKind_0 rfl rfl ?_
  refine gj_istore_n C (pc' := 2) (i := 2) (lv' := [_, _, _, _]) rfl dX9_isOfKind_1 rfl (by decide) rfl rfl ?_
  refine gj_iconst C (pc' := 3) (v := 0) rfl dX9_isOfKind_2 (by decide) ?_
  refine gj_istore_n C (pc' := 4) (i := 3) (lv' := [_, _, _, _]) rfl dX9_isOfKind_3 rfl (by decide) rfl rfl ?_
  refine gj_drop (lv' := [none, some _, some _, some _]) (And.intro rfl (And.intro rfl (And.intro rfl True.intro))) ?_
  exact kX9_isOfKind_4 C h
set_option maxHeartbeats 4000000 in
set_option maxRecDepth 100000 in
theorem kX9_as_21 {p : Program} {l : Launch} {e : Env} {s : State} {m : MethodId} {args : Array Value} {below : List Frame} {meth : Method} {c : Code} {D : va_G} {ad : Nat → Nat} {tc : Nat → ClassId} {A : Nat → Prop} (C : gj_C p s m args meth c D ad tc A cX9_as 4 (some .int) RX9) {r : Int32} {w1 : ab_W} {x0 : Nat} {w : ab_W} (h : sX9_as_21 x0 w = some (r, w1)) : gj_G p l e (gj_R 2) s m args below meth c D ad tc A 4 (gj_Qi D ad tc A below args s r w1) 21 [some (.ref x0), none, none, none] [] w := by
  unfold sX9_as_21 at h
  refine gj_aload_n C (pc' := 22) (i := 0) rfl dX9_as_21 rfl rfl ?_
  refine gj_iconst C (pc' := 23) (v := 1) rfl dX9_as_22 (by decide) ?_
  refine gj_callVi C (pc' := 26) rfl dX9_as_23 wm_X9_66 uX9_fail h (kX9_fail _ _ _) (by omega) rfl rfl (Nat.le_of_ble_eq_true rfl) (fun v1 w2 h => ?_)
  exact gj_iret C dX9_as_26 h
set_option maxHeartbeats 4000000 in
set_option maxRecDepth 100000 in
theorem kX9_as : ∀ (x0 : Nat) (x1 : Int32) (x2 : Int32) (w : ab_W) (r : Int32) (w1 : ab_W), sX9_as x0 x1 x2 w = some (r, w1) → gj_Mi yX9_as cX9_as 4 (some .int) 2 [.ref x0, .int x1, .int x2] w r w1 ∧ ab_is w 9 x0 = true := by
  intro x0 x1 x2 w r w1 h
  unfold sX9_as at h
  obtain ⟨hi, h⟩ := ab_ite h
  refine ⟨?_, hi⟩
  refine gj_Mi_of RX9 [some (.ref x0), some (.int x1), some (.int x2), none] (by decide +kernel) rfl (Nat.le_of_ble_eq_true rfl) rfl (fun p l e s m args below meth c D ad tc A C => ?_)
  refine gj_aload_n C (pc' := 1) (i := 0) rfl dX9_as_0 rfl rfl ?_
  refine gj_getR C (pc' := 4) rfl dX9_as_1 wf_X9_30 h (fun v1 h => ?_)
  refine gj_iload_n C (pc' := 5) (i := 1) rfl dX9_as_4 rfl rfl ?_
  refine gj_callVi C (pc' := 8) rfl dX9_as_5 wm_X9_77 uX0_has h (kX0_has _ _ _) (by omega) rfl rfl (Nat.le_of_ble_eq_true rfl) (fun v2 w3 h => ?_)
  refine gj_if_eq C (pc' := 11) (tgt := 21) rfl dX9_as_8 rfl h (fun h => ?_) (fun h => ?_)
  · refine gj_drop (lv' := [some _, none, none, none]) (And.intro rfl True.intro) ?_
    exact kX9_as_21 C h
  · refine gj_iload_n C (pc' := 12) (i := 2) rfl dX9_as_11 rfl rfl ?_
    refine gj_iconst C (pc' := 13) (v := 0) rfl dX9_as_12 (by decide) ?_
    refine gj_bipush C (pc' := 15) (v := 6) rfl dX9_as_13 (by decide) ?_
    refine gj_callSi C (pc' := 18) rfl dX9_as_15 wm_X9_62 uX9_within h (kX9_within _ _ _ _) (by omega) rfl rfl (Nat.le_of_ble_eq_true rfl) (fun v4 w5 h => ?_)
    refine gj_if_ne C (pc' := 21) (tgt := 27) rfl dX9_as_18 rfl h (fun h => ?_) (fun h => ?_)
    · refine gj_drop (lv' := [some _, none, none, none]) (And.intro rfl True.intro) ?_
      exact kX9_as_21 C h
    · refine gj_aload_n C (pc' := 28) (i := 0) rfl dX9_as_27 rfl rfl ?_
      refine gj_getR C (pc' := 31) rfl dX9_as_28 wf_X9_30 h (fun v6 h => ?_)
      refine gj_getR C (pc' := 34) rfl dX9_as_31 wf_X9_81 h (fun v7 h => ?_)
      refine gj_iload_n C (pc' := 35) (i := 1) rfl dX9_as_34 rfl rfl ?_
      refine gj_rald C (pc' := 36) (t := 1) rfl dX9_as_35 rfl h (fun v8 h => ?_)
      refine gj_astore_n C (pc' := 37) (i := 3) (lv' := [_, _, _, _]) rfl dX9_as_36 rfl (by decide) rfl rfl ?_
      refine gj_aload_n C (pc' := 38) (i := 3) rfl dX9_as_37 rfl rfl ?_
      refine gj_getI C (pc' := 41) rfl dX9_as_38 wf_X9_85 h (fun v9 h => ?_)
      refine gj_iload_n C (pc' := 42) (i := 2) rfl dX9_as_41 rfl rfl ?_
      refine gj_callSi C (pc' := 45) rfl dX9_as_42 wm_X9_126 uX9_isOfKind h (kX9_isOfKind _ _ _) (by omega) rfl rfl (Nat.le_of_ble_eq_true rfl) (fun v10 w11 h => ?_)
      refine gj_if_ne C (pc' := 48) (tgt := 54) rfl dX9_as_45 rfl h (fun h => ?_) (fun h => ?_)
      · refine gj_aload_n C (pc' := 49) (i := 0) rfl dX9_as_48 rfl rfl ?_
        refine gj_iconst C (pc' := 50) (v := 5) rfl dX9_as_49 (by decide) ?_
        refine gj_callVi C (pc' := 53) rfl dX9_as_50 wm_X9_66 uX9_fail h (kX9_fail _ _ _) (by omega) rfl rfl (Nat.le_of_ble_eq_true rfl) (fun v12 w13 h => ?_)
        exact gj_iret C dX9_as_53 h
      · refine gj_aload_n C (pc' := 55) (i := 3) rfl dX9_as_54 rfl rfl ?_
        refine gj_getI C (pc' := 58) rfl dX9_as_55 wf_X9_90 h (fun v14 h => ?_)
        exact gj_iret C dX9_as_58 h
set_option maxHeartbeats 4000000 in
set_option maxRecDepth 100000 in
theorem kX9_feed_39 {p : Program} {l : Launch} {e : Env} {s : State} {m : MethodId} {args : Array Value} {below : List Frame} {meth : Method} {c : Code} {D : va_G} {ad : Nat → Nat} {tc : Nat → ClassId} {A : Nat → Prop} (C : gj_C p s m args meth c D ad tc A cX9_feed 5 (some .int) RX9) {r : Int32} {w1 : ab_W} : ∀ {n : Nat} {x0 : Nat} {x1 : Int64} {x3 : Int32} {x4 : Int32} {w : ab_W}, sX9_feed_39 n x0 x1 x3 x4 w = some (r, w1) → gj_G p l e (gj_R 2) s m args below meth c D ad tc A 5 (gj_Qi D ad tc A below args s r w1) 39 [some (.ref x0), some (.long x1), none, some (.int x3), some (.int x4)] [] w := by
  intro n
  induction n with
  | zero =>
    intros
    rename_i h
    cases h
  | succ n ih =>
    intro x0 x1 x3 x4 w h
    rw [sX9_feed_39] at h
    refine gj_iload C (pc' := 41) (i := 4) rfl dX9_feed_39 rfl ?_
    refine gj_iload_n C (pc' := 42) (i := 3) rfl dX9_feed_41 rfl rfl ?_
    refine gj_icmp_ge C (pc' := 45) (tgt := 81) rfl dX9_feed_42 rfl h (fun h => ?_) (fun h => ?_)
    · refine gj_aload_n C (pc' := 46) (i := 0) rfl dX9_feed_45 rfl rfl ?_
      refine gj_getR C (pc' := 49) rfl dX9_feed_46 wf_X9_30 h (fun v1 h => ?_)
      refine gj_getR C (pc' := 52) rfl dX9_feed_49 wf_X9_133 h (fun v2 h => ?_)
      refine gj_aload_n C (pc' := 53) (i := 0) rfl dX9_feed_52 rfl rfl ?_
      refine gj_getR C (pc' := 56) rfl dX9_feed_53 wf_X9_30 h (fun v3 h => ?_)
      refine gj_getI C (pc' := 59) rfl dX9_feed_56 wf_X9_130 h (fun v4 h => ?_)
      refine gj_iload C (pc' := 61) (i := 4) rfl dX9_feed_59 rfl ?_
      refine gj_iadd C (pc' := 62) rfl dX9_feed_61 ?_
      refine gj_lload_n C (pc' := 63) (i := 1) rfl dX9_feed_62 rfl rfl ?_
      refine gj_bipush C (pc' := 65) (v := 8) rfl dX9_feed_63 (by decide) ?_
      refine gj_iload C (pc' := 67) (i := 4) rfl dX9_feed_65 rfl ?_
      refine gj_imul C (pc' := 68) rfl dX9_feed_67 ?_
      refine gj_lushr C (pc' := 69) rfl dX9_feed_68 ?_
      refine gj_ldc2 C (pc' := 72) rfl dX9_feed_69 wk_X9_136 ?_
      refine gj_land C (pc' := 73) rfl dX9_feed_72 ?_
      refine gj_l2i C (pc' := 74) rfl dX9_feed_73 ?_
      refine gj_iast C (pc' := 75) rfl dX9_feed_74 h (fun w5 h => ?_)
      refine gj_iinc C (pc' := 78) (i := 4) (v := _ + 1) (lv' := [_, _, _, _, _]) rfl dX9_feed_75 rfl rfl (by decide) rfl rfl ?_
      refine gj_goto C (tgt := 39) dX9_feed_78 rfl ?_
      refine gj_drop (lv' := [some _, some _, none, some _, some _]) (And.intro rfl (And.intro rfl (And.intro rfl (And.intro rfl True.intro)))) ?_
      exact ih h
    · refine gj_aload_n C (pc' := 82) (i := 0) rfl dX9_feed_81 rfl rfl ?_
      refine gj_getR C (pc' := 85) rfl dX9_feed_82 wf_X9_30 h (fun v6 h => ?_)
      refine gj_dup C (pc' := 86) rfl dX9_feed_85 rfl ?_
      refine gj_getI C (pc' := 89) rfl dX9_feed_86 wf_X9_130 h (fun v7 h => ?_)
      refine gj_iload_n C (pc' := 90) (i := 3) rfl dX9_feed_89 rfl rfl ?_
      refine gj_iadd C (pc' := 91) rfl dX9_feed_90 ?_
      refine gj_putI C (pc' := 94) (ty := .int) rfl dX9_feed_91 wf_X9_130 wp_X0_7 rfl h (fun w8 h => ?_)
      refine gj_aload_n C (pc' := 95) (i := 0) rfl dX9_feed_94 rfl rfl ?_
      refine gj_getR C (pc' := 98) rfl dX9_feed_95 wf_X9_30 h (fun v9 h => ?_)
      refine gj_getI C (pc' := 101) rfl dX9_feed_98 wf_X9_130 h (fun v10 h => ?_)
      exact gj_iret C dX9_feed_101 h
set_option maxHeartbeats 4000000 in
set_option maxRecDepth 100000 in
theorem kX9_feed : ∀ (x0 : Nat) (x1 : Int64) (x3 : Int32) (w : ab_W) (r : Int32) (w1 : ab_W), sX9_feed x0 x1 x3 w = some (r, w1) → gj_Mi yX9_feed cX9_feed 5 (some .int) 2 [.ref x0, .long x1, .int x3] w r w1 ∧ ab_is w 9 x0 = true := by
  intro x0 x1 x3 w r w1 h
  unfold sX9_feed at h
  obtain ⟨hi, h⟩ := ab_ite h
  refine ⟨?_, hi⟩
  refine gj_Mi_of RX9 [some (.ref x0), some (.long x1), none, some (.int x3), none] (by decide +kernel) rfl (Nat.le_of_ble_eq_true rfl) rfl (fun p l e s m args below meth c D ad tc A C => ?_)
  refine gj_iload_n C (pc' := 1) (i := 3) rfl dX9_feed_0 rfl rfl ?_
  refine gj_iconst C (pc' := 2) (v := 1) rfl dX9_feed_1 (by decide) ?_
  refine gj_bipush C (pc' := 4) (v := 8) rfl dX9_feed_2 (by decide) ?_
  refine gj_callSi C (pc' := 7) rfl dX9_feed_4 wm_X9_62 uX9_within h (kX9_within _ _ _ _) (by omega) rfl rfl (Nat.le_of_ble_eq_true rfl) (fun v1 w2 h => ?_)
  refine gj_if_ne C (pc' := 10) (tgt := 16) rfl dX9_feed_7 rfl h (fun h => ?_) (fun h => ?_)
  · refine gj_aload_n C (pc' := 11) (i := 0) rfl dX9_feed_10 rfl rfl ?_
    refine gj_iconst C (pc' := 12) (v := 1) rfl dX9_feed_11 (by decide) ?_
    refine gj_callVi C (pc' := 15) rfl dX9_feed_12 wm_X9_66 uX9_fail h (kX9_fail _ _ _) (by omega) rfl rfl (Nat.le_of_ble_eq_true rfl) (fun v3 w4 h => ?_)
    exact gj_iret C dX9_feed_15 h
  · refine gj_aload_n C (pc' := 17) (i := 0) rfl dX9_feed_16 rfl rfl ?_
    refine gj_getR C (pc' := 20) rfl dX9_feed_17 wf_X9_30 h (fun v5 h => ?_)
    refine gj_getI C (pc' := 23) rfl dX9_feed_20 wf_X9_130 h (fun v6 h => ?_)
    refine gj_iload_n C (pc' := 24) (i := 3) rfl dX9_feed_23 rfl rfl ?_
    refine gj_iadd C (pc' := 25) rfl dX9_feed_24 ?_
    refine gj_bipush C (pc' := 27) (v := 50) rfl dX9_feed_25 (by decide) ?_
    refine gj_icmp_le C (pc' := 30) (tgt := 36) rfl dX9_feed_27 rfl h (fun h => ?_) (fun h => ?_)
    · refine gj_aload_n C (pc' := 31) (i := 0) rfl dX9_feed_30 rfl rfl ?_
      refine gj_iconst C (pc' := 32) (v := 4) rfl dX9_feed_31 (by decide) ?_
      refine gj_callVi C (pc' := 35) rfl dX9_feed_32 wm_X9_66 uX9_fail h (kX9_fail _ _ _) (by omega) rfl rfl (Nat.le_of_ble_eq_true rfl) (fun v7 w8 h => ?_)
      exact gj_iret C dX9_feed_35 h
    · refine gj_iconst C (pc' := 37) (v := 0) rfl dX9_feed_36 (by decide) ?_
      refine gj_istore C (pc' := 39) (i := 4) (lv' := [_, _, _, _, _]) rfl dX9_feed_37 (by decide) rfl rfl ?_
      refine gj_drop (lv' := [some _, some _, none, some _, some _]) (And.intro rfl (And.intro rfl (And.intro rfl (And.intro rfl True.intro)))) ?_
      exact kX9_feed_39 C h
set_option maxHeartbeats 4000000 in
set_option maxRecDepth 100000 in
theorem kX2_copyFrom : ∀ (x0 : Nat) (x1 : Nat) (w : ab_W) (w1 : ab_W), sX2_copyFrom x0 x1 w = some w1 → gj_Mv yX2_copyFrom cX2_copyFrom 2 none 1 [.ref x0, .ref x1] w w1 ∧ ab_is w 2 x0 = true := by
  intro x0 x1 w w1 h
  unfold sX2_copyFrom at h
  obtain ⟨hi, h⟩ := ab_ite h
  refine ⟨?_, hi⟩
  refine gj_Mv_of RX2 [some (.ref x0), some (.ref x1)] (by decide +kernel) rfl (Nat.le_of_ble_eq_true rfl) rfl (fun p l e s m args below meth c D ad tc A C => ?_)
  refine gj_aload_n C (pc' := 1) (i := 1) rfl dX2_copyFrom_0 rfl rfl ?_
  refine gj_getR C (pc' := 4) rfl dX2_copyFrom_1 wf_X2_9 h (fun v1 h => ?_)
  refine gj_iconst C (pc' := 5) (v := 0) rfl dX2_copyFrom_4 (by decide) ?_
  refine gj_aload_n C (pc' := 6) (i := 0) rfl dX2_copyFrom_5 rfl rfl ?_
  refine gj_getR C (pc' := 9) rfl dX2_copyFrom_6 wf_X2_9 h (fun v2 h => ?_)
  refine gj_iconst C (pc' := 10) (v := 0) rfl dX2_copyFrom_9 (by decide) ?_
  refine gj_bipush C (pc' := 12) (v := 50) rfl dX2_copyFrom_10 (by decide) ?_
  refine gj_cpy C (pc' := 15) (gj_R1 (by omega)) rfl dX2_copyFrom_12 wm_X2_22 w_cpyN w_cpyS w_cpyI (Nat.le_of_ble_eq_true rfl) h (fun w3 h => ?_)
  refine gj_aload_n C (pc' := 16) (i := 0) rfl dX2_copyFrom_15 rfl rfl ?_
  refine gj_aload_n C (pc' := 17) (i := 1) rfl dX2_copyFrom_16 rfl rfl ?_
  refine gj_getI C (pc' := 20) rfl dX2_copyFrom_17 wf_X2_18 h (fun v4 h => ?_)
  refine gj_putI C (pc' := 23) (ty := .int) rfl dX2_copyFrom_20 wf_X2_18 wp_X2_2 rfl h (fun w5 h => ?_)
  exact gj_vret C dX2_copyFrom_23 h
set_option maxHeartbeats 4000000 in
set_option maxRecDepth 100000 in
theorem kX2_clear : ∀ (x0 : Nat) (w : ab_W) (w1 : ab_W), sX2_clear x0 w = some w1 → gj_Mv yX2_clear cX2_clear 1 none 0 [.ref x0] w w1 ∧ ab_is w 2 x0 = true := by
  intro x0 w w1 h
  unfold sX2_clear at h
  obtain ⟨hi, h⟩ := ab_ite h
  refine ⟨?_, hi⟩
  refine gj_Mv_of RX2 [some (.ref x0)] (by decide +kernel) rfl (Nat.le_of_ble_eq_true rfl) rfl (fun p l e s m args below meth c D ad tc A C => ?_)
  refine gj_aload_n C (pc' := 1) (i := 0) rfl dX2_clear_0 rfl rfl ?_
  refine gj_iconst C (pc' := 2) (v := 0) rfl dX2_clear_1 (by decide) ?_
  refine gj_putI C (pc' := 5) (ty := .int) rfl dX2_clear_2 wf_X2_18 wp_X2_2 rfl h (fun w1 h => ?_)
  exact gj_vret C dX2_clear_5 h
set_option maxHeartbeats 4000000 in
set_option maxRecDepth 100000 in
theorem kX2_add : ∀ (x0 : Nat) (x1 : Int32) (w : ab_W) (w1 : ab_W), sX2_add x0 x1 w = some w1 → gj_Mv yX2_add cX2_add 2 none 0 [.ref x0, .int x1] w w1 ∧ ab_is w 2 x0 = true := by
  intro x0 x1 w w1 h
  unfold sX2_add at h
  obtain ⟨hi, h⟩ := ab_ite h
  refine ⟨?_, hi⟩
  refine gj_Mv_of RX2 [some (.ref x0), some (.int x1)] (by decide +kernel) rfl (Nat.le_of_ble_eq_true rfl) rfl (fun p l e s m args below meth c D ad tc A C => ?_)
  refine gj_aload_n C (pc' := 1) (i := 0) rfl dX2_add_0 rfl rfl ?_
  refine gj_getI C (pc' := 4) rfl dX2_add_1 wf_X2_18 h (fun v1 h => ?_)
  refine gj_bipush C (pc' := 6) (v := 50) rfl dX2_add_4 (by decide) ?_
  refine gj_icmp_ge C (pc' := 9) (tgt := 29) rfl dX2_add_6 rfl h (fun h => ?_) (fun h => ?_)
  · refine gj_aload_n C (pc' := 10) (i := 0) rfl dX2_add_9 rfl rfl ?_
    refine gj_getR C (pc' := 13) rfl dX2_add_10 wf_X2_9 h (fun v2 h => ?_)
    refine gj_aload_n C (pc' := 14) (i := 0) rfl dX2_add_13 rfl rfl ?_
    refine gj_getI C (pc' := 17) rfl dX2_add_14 wf_X2_18 h (fun v3 h => ?_)
    refine gj_iload_n C (pc' := 18) (i := 1) rfl dX2_add_17 rfl rfl ?_
    refine gj_iast C (pc' := 19) rfl dX2_add_18 h (fun w4 h => ?_)
    refine gj_aload_n C (pc' := 20) (i := 0) rfl dX2_add_19 rfl rfl ?_
    refine gj_dup C (pc' := 21) rfl dX2_add_20 rfl ?_
    refine gj_getI C (pc' := 24) rfl dX2_add_21 wf_X2_18 h (fun v5 h => ?_)
    refine gj_iconst C (pc' := 25) (v := 1) rfl dX2_add_24 (by decide) ?_
    refine gj_iadd C (pc' := 26) rfl dX2_add_25 ?_
    refine gj_putI C (pc' := 29) (ty := .int) rfl dX2_add_26 wf_X2_18 wp_X2_2 rfl h (fun w6 h => ?_)
    exact gj_vret C dX2_add_29 h
  · exact gj_vret C dX2_add_29 h
set_option maxHeartbeats 4000000 in
set_option maxRecDepth 100000 in
theorem kX4_levelOf : ∀ (x0 : Int32) (w : ab_W) (r : Int32) (w1 : ab_W), sX4_levelOf x0 w = some (r, w1) → gj_Mi yX4_levelOf cX4_levelOf 1 (some .int) 0 [.int x0] w r w1 := by
  intro x0 w r w1 h
  unfold sX4_levelOf at h
  refine gj_Mi_of RX4 [some (.int x0)] (by decide +kernel) rfl (Nat.le_of_ble_eq_true rfl) rfl (fun p l e s m args below meth c D ad tc A C => ?_)
  refine gj_iload_n C (pc' := 1) (i := 0) rfl dX4_levelOf_0 rfl rfl ?_
  refine gj_look C (tgt := 100) dX4_levelOf_1 37 (by decide) rfl (by decide) h (fun h => ?_) (fun n1_0 h => ?_)
  · refine gj_iconst C (pc' := 101) (v := 4) rfl dX4_levelOf_100 (by decide) ?_
    exact gj_iret C dX4_levelOf_101 h
  refine gj_look C (tgt := 94) dX4_levelOf_1 38 (by decide) rfl (by decide) h (fun h => ?_) (fun n1_1 h => ?_)
  · refine gj_iconst C (pc' := 95) (v := 1) rfl dX4_levelOf_94 (by decide) ?_
    exact gj_iret C dX4_levelOf_95 h
  refine gj_look C (tgt := 100) dX4_levelOf_1 42 (by decide) rfl (by decide) h (fun h => ?_) (fun n1_2 h => ?_)
  · refine gj_iconst C (pc' := 101) (v := 4) rfl dX4_levelOf_100 (by decide) ?_
    exact gj_iret C dX4_levelOf_101 h
  refine gj_look C (tgt := 98) dX4_levelOf_1 43 (by decide) rfl (by decide) h (fun h => ?_) (fun n1_3 h => ?_)
  · refine gj_iconst C (pc' := 99) (v := 3) rfl dX4_levelOf_98 (by decide) ?_
    exact gj_iret C dX4_levelOf_99 h
  refine gj_look C (tgt := 98) dX4_levelOf_1 45 (by decide) rfl (by decide) h (fun h => ?_) (fun n1_4 h => ?_)
  · refine gj_iconst C (pc' := 99) (v := 3) rfl dX4_levelOf_98 (by decide) ?_
    exact gj_iret C dX4_levelOf_99 h
  refine gj_look C (tgt := 100) dX4_levelOf_1 47 (by decide) rfl (by decide) h (fun h => ?_) (fun n1_5 h => ?_)
  · refine gj_iconst C (pc' := 101) (v := 4) rfl dX4_levelOf_100 (by decide) ?_
    exact gj_iret C dX4_levelOf_101 h
  refine gj_look C (tgt := 96) dX4_levelOf_1 60 (by decide) rfl (by decide) h (fun h => ?_) (fun n1_6 h => ?_)
  · refine gj_iconst C (pc' := 97) (v := 2) rfl dX4_levelOf_96 (by decide) ?_
    exact gj_iret C dX4_levelOf_97 h
  refine gj_look C (tgt := 96) dX4_levelOf_1 61 (by decide) rfl (by decide) h (fun h => ?_) (fun n1_7 h => ?_)
  · refine gj_iconst C (pc' := 97) (v := 2) rfl dX4_levelOf_96 (by decide) ?_
    exact gj_iret C dX4_levelOf_97 h
  refine gj_look C (tgt := 96) dX4_levelOf_1 62 (by decide) rfl (by decide) h (fun h => ?_) (fun n1_8 h => ?_)
  · refine gj_iconst C (pc' := 97) (v := 2) rfl dX4_levelOf_96 (by decide) ?_
    exact gj_iret C dX4_levelOf_97 h
  refine gj_look C (tgt := 92) dX4_levelOf_1 124 (by decide) rfl (by decide) h (fun h => ?_) (fun n1_9 h => ?_)
  · refine gj_iconst C (pc' := 93) (v := 0) rfl dX4_levelOf_92 (by decide) ?_
    exact gj_iret C dX4_levelOf_93 h
  refine gj_lookD C (tgt := 102) dX4_levelOf_1 (by decide) (by decide) (by show Op.lookupswitch.offset (_ :: _) _ _ = _; rw [lv_osw n1_0 (by decide), lv_osw n1_1 (by decide), lv_osw n1_2 (by decide), lv_osw n1_3 (by decide), lv_osw n1_4 (by decide), lv_osw n1_5 (by decide), lv_osw n1_6 (by decide), lv_osw n1_7 (by decide), lv_osw n1_8 (by decide), lv_osw n1_9 (by decide)]; try rfl) ?_
  refine gj_iconst C (pc' := 103) (v := (-1)) rfl dX4_levelOf_102 (by decide) ?_
  exact gj_iret C dX4_levelOf_103 h
set_option maxHeartbeats 4000000 in
set_option maxRecDepth 100000 in
theorem kX4_next : ∀ (x0 : Nat) (w : ab_W) (r : Int32) (w1 : ab_W), sX4_next x0 w = some (r, w1) → gj_Mi yX4_next cX4_next 1 (some .int) 0 [.ref x0] w r w1 ∧ ab_is w 4 x0 = true := by
  intro x0 w r w1 h
  unfold sX4_next at h
  obtain ⟨hi, h⟩ := ab_ite h
  refine ⟨?_, hi⟩
  refine gj_Mi_of RX4 [some (.ref x0)] (by decide +kernel) rfl (Nat.le_of_ble_eq_true rfl) rfl (fun p l e s m args below meth c D ad tc A C => ?_)
  refine gj_aload_n C (pc' := 1) (i := 0) rfl dX4_next_0 rfl rfl ?_
  refine gj_getI C (pc' := 4) rfl dX4_next_1 wf_X4_29 h (fun v1 h => ?_)
  refine gj_if_lt C (pc' := 7) (tgt := 30) rfl dX4_next_4 rfl h (fun h => ?_) (fun h => ?_)
  · refine gj_iconst C (pc' := 31) (v := (-1)) rfl dX4_next_30 (by decide) ?_
    exact gj_iret C dX4_next_31 h
  · refine gj_aload_n C (pc' := 8) (i := 0) rfl dX4_next_7 rfl rfl ?_
    refine gj_getI C (pc' := 11) rfl dX4_next_8 wf_X4_29 h (fun v2 h => ?_)
    refine gj_aload_n C (pc' := 12) (i := 0) rfl dX4_next_11 rfl rfl ?_
    refine gj_getI C (pc' := 15) rfl dX4_next_12 wf_X4_22 h (fun v3 h => ?_)
    refine gj_icmp_ge C (pc' := 18) (tgt := 30) rfl dX4_next_15 rfl h (fun h => ?_) (fun h => ?_)
    · refine gj_aload_n C (pc' := 19) (i := 0) rfl dX4_next_18 rfl rfl ?_
      refine gj_getR C (pc' := 22) rfl dX4_next_19 wf_X4_18 h (fun v4 h => ?_)
      refine gj_aload_n C (pc' := 23) (i := 0) rfl dX4_next_22 rfl rfl ?_
      refine gj_getI C (pc' := 26) rfl dX4_next_23 wf_X4_29 h (fun v5 h => ?_)
      refine gj_iald C (pc' := 27) rfl dX4_next_26 h (fun v6 h => ?_)
      refine gj_goto C (tgt := 31) dX4_next_27 rfl ?_
      exact gj_iret C dX4_next_31 h
    · refine gj_iconst C (pc' := 31) (v := (-1)) rfl dX4_next_30 (by decide) ?_
      exact gj_iret C dX4_next_31 h
set_option maxHeartbeats 4000000 in
set_option maxRecDepth 100000 in
theorem kX4_isDigit : ∀ (x0 : Int32) (w : ab_W) (r : Int32) (w1 : ab_W), sX4_isDigit x0 w = some (r, w1) → gj_Mi yX4_isDigit cX4_isDigit 1 (some .boolean) 0 [.int x0] w r w1 := by
  intro x0 w r w1 h
  unfold sX4_isDigit at h
  refine gj_Mi_of RX4 [some (.int x0)] (by decide +kernel) rfl (Nat.le_of_ble_eq_true rfl) rfl (fun p l e s m args below meth c D ad tc A C => ?_)
  refine gj_iload_n C (pc' := 1) (i := 0) rfl dX4_isDigit_0 rfl rfl ?_
  refine gj_bipush C (pc' := 3) (v := 48) rfl dX4_isDigit_1 (by decide) ?_
  refine gj_icmp_lt C (pc' := 6) (tgt := 16) rfl dX4_isDigit_3 rfl h (fun h => ?_) (fun h => ?_)
  · refine gj_iconst C (pc' := 17) (v := 0) rfl dX4_isDigit_16 (by decide) ?_
    exact gj_zret C dX4_isDigit_17 h
  · refine gj_iload_n C (pc' := 7) (i := 0) rfl dX4_isDigit_6 rfl rfl ?_
    refine gj_bipush C (pc' := 9) (v := 57) rfl dX4_isDigit_7 (by decide) ?_
    refine gj_icmp_gt C (pc' := 12) (tgt := 16) rfl dX4_isDigit_9 rfl h (fun h => ?_) (fun h => ?_)
    · refine gj_iconst C (pc' := 17) (v := 0) rfl dX4_isDigit_16 (by decide) ?_
      exact gj_zret C dX4_isDigit_17 h
    · refine gj_iconst C (pc' := 13) (v := 1) rfl dX4_isDigit_12 (by decide) ?_
      refine gj_goto C (tgt := 17) dX4_isDigit_13 rfl ?_
      exact gj_zret C dX4_isDigit_17 h
set_option maxHeartbeats 4000000 in
set_option maxRecDepth 100000 in
theorem kX4_nameOf : ∀ (x0 : Nat) (x1 : Int32) (w : ab_W) (r : Int32) (w1 : ab_W), sX4_nameOf x0 x1 w = some (r, w1) → gj_Mi yX4_nameOf cX4_nameOf 2 (some .int) 0 [.ref x0, .int x1] w r w1 ∧ ab_is w 4 x0 = true := by
  intro x0 x1 w r w1 h
  unfold sX4_nameOf at h
  obtain ⟨hi, h⟩ := ab_ite h
  refine ⟨?_, hi⟩
  refine gj_Mi_of RX4 [some (.ref x0), some (.int x1)] (by decide +kernel) rfl (Nat.le_of_ble_eq_true rfl) rfl (fun p l e s m args below meth c D ad tc A C => ?_)
  refine gj_iload_n C (pc' := 1) (i := 1) rfl dX4_nameOf_0 rfl rfl ?_
  refine gj_look C (tgt := 86) dX4_nameOf_1 98 (by decide) rfl (by decide) h (fun h => ?_) (fun n1_0 h => ?_)
  · refine gj_aload_n C (pc' := 87) (i := 0) rfl dX4_nameOf_86 rfl rfl ?_
    refine gj_getI C (pc' := 90) rfl dX4_nameOf_87 wf_X4_26 h (fun v1 h => ?_)
    refine gj_if_ne C (pc' := 93) (tgt := 97) rfl dX4_nameOf_90 rfl h (fun h => ?_) (fun h => ?_)
    · refine gj_iconst C (pc' := 94) (v := 2) rfl dX4_nameOf_93 (by decide) ?_
      refine gj_goto C (tgt := 98) dX4_nameOf_94 rfl ?_
      exact gj_iret C dX4_nameOf_98 h
    · refine gj_iconst C (pc' := 98) (v := (-1)) rfl dX4_nameOf_97 (by decide) ?_
      exact gj_iret C dX4_nameOf_98 h
  refine gj_look C (tgt := 127) dX4_nameOf_1 100 (by decide) rfl (by decide) h (fun h => ?_) (fun n1_1 h => ?_)
  · refine gj_aload_n C (pc' := 128) (i := 0) rfl dX4_nameOf_127 rfl rfl ?_
    refine gj_getI C (pc' := 131) rfl dX4_nameOf_128 wf_X4_26 h (fun v2 h => ?_)
    refine gj_iconst C (pc' := 132) (v := 1) rfl dX4_nameOf_131 (by decide) ?_
    refine gj_icmp_ne C (pc' := 135) (tgt := 139) rfl dX4_nameOf_132 rfl h (fun h => ?_) (fun h => ?_)
    · refine gj_iconst C (pc' := 136) (v := 2) rfl dX4_nameOf_135 (by decide) ?_
      refine gj_goto C (tgt := 140) dX4_nameOf_136 rfl ?_
      exact gj_iret C dX4_nameOf_140 h
    · refine gj_iconst C (pc' := 140) (v := (-1)) rfl dX4_nameOf_139 (by decide) ?_
      exact gj_iret C dX4_nameOf_140 h
  refine gj_look C (tgt := 113) dX4_nameOf_1 102 (by decide) rfl (by decide) h (fun h => ?_) (fun n1_2 h => ?_)
  · refine gj_aload_n C (pc' := 114) (i := 0) rfl dX4_nameOf_113 rfl rfl ?_
    refine gj_getI C (pc' := 117) rfl dX4_nameOf_114 wf_X4_26 h (fun v3 h => ?_)
    refine gj_iconst C (pc' := 118) (v := 1) rfl dX4_nameOf_117 (by decide) ?_
    refine gj_icmp_ne C (pc' := 121) (tgt := 125) rfl dX4_nameOf_118 rfl h (fun h => ?_) (fun h => ?_)
    · refine gj_iconst C (pc' := 122) (v := 1) rfl dX4_nameOf_121 (by decide) ?_
      refine gj_goto C (tgt := 126) dX4_nameOf_122 rfl ?_
      exact gj_iret C dX4_nameOf_126 h
    · refine gj_iconst C (pc' := 126) (v := (-1)) rfl dX4_nameOf_125 (by decide) ?_
      exact gj_iret C dX4_nameOf_126 h
  refine gj_look C (tgt := 73) dX4_nameOf_1 104 (by decide) rfl (by decide) h (fun h => ?_) (fun n1_3 h => ?_)
  · refine gj_aload_n C (pc' := 74) (i := 0) rfl dX4_nameOf_73 rfl rfl ?_
    refine gj_getI C (pc' := 77) rfl dX4_nameOf_74 wf_X4_26 h (fun v4 h => ?_)
    refine gj_if_ne C (pc' := 80) (tgt := 84) rfl dX4_nameOf_77 rfl h (fun h => ?_) (fun h => ?_)
    · refine gj_iconst C (pc' := 81) (v := 1) rfl dX4_nameOf_80 (by decide) ?_
      refine gj_goto C (tgt := 85) dX4_nameOf_81 rfl ?_
      exact gj_iret C dX4_nameOf_85 h
    · refine gj_iconst C (pc' := 85) (v := (-1)) rfl dX4_nameOf_84 (by decide) ?_
      exact gj_iret C dX4_nameOf_85 h
  refine gj_look C (tgt := 99) dX4_nameOf_1 111 (by decide) rfl (by decide) h (fun h => ?_) (fun n1_4 h => ?_)
  · refine gj_aload_n C (pc' := 100) (i := 0) rfl dX4_nameOf_99 rfl rfl ?_
    refine gj_getI C (pc' := 103) rfl dX4_nameOf_100 wf_X4_26 h (fun v5 h => ?_)
    refine gj_iconst C (pc' := 104) (v := 1) rfl dX4_nameOf_103 (by decide) ?_
    refine gj_icmp_ne C (pc' := 107) (tgt := 111) rfl dX4_nameOf_104 rfl h (fun h => ?_) (fun h => ?_)
    · refine gj_iconst C (pc' := 108) (v := 0) rfl dX4_nameOf_107 (by decide) ?_
      refine gj_goto C (tgt := 112) dX4_nameOf_108 rfl ?_
      exact gj_iret C dX4_nameOf_112 h
    · refine gj_iconst C (pc' := 112) (v := (-1)) rfl dX4_nameOf_111 (by decide) ?_
      exact gj_iret C dX4_nameOf_112 h
  refine gj_look C (tgt := 60) dX4_nameOf_1 119 (by decide) rfl (by decide) h (fun h => ?_) (fun n1_5 h => ?_)
  · refine gj_aload_n C (pc' := 61) (i := 0) rfl dX4_nameOf_60 rfl rfl ?_
    refine gj_getI C (pc' := 64) rfl dX4_nameOf_61 wf_X4_26 h (fun v6 h => ?_)
    refine gj_if_ne C (pc' := 67) (tgt := 71) rfl dX4_nameOf_64 rfl h (fun h => ?_) (fun h => ?_)
    · refine gj_iconst C (pc' := 68) (v := 0) rfl dX4_nameOf_67 (by decide) ?_
      refine gj_goto C (tgt := 72) dX4_nameOf_68 rfl ?_
      exact gj_iret C dX4_nameOf_72 h
    · refine gj_iconst C (pc' := 72) (v := (-1)) rfl dX4_nameOf_71 (by decide) ?_
      exact gj_iret C dX4_nameOf_72 h
  refine gj_lookD C (tgt := 141) dX4_nameOf_1 (by decide) (by decide) (by show Op.lookupswitch.offset (_ :: _) _ _ = _; rw [lv_osw n1_0 (by decide), lv_osw n1_1 (by decide), lv_osw n1_2 (by decide), lv_osw n1_3 (by decide), lv_osw n1_4 (by decide), lv_osw n1_5 (by decide)]; try rfl) ?_
  refine gj_iconst C (pc' := 142) (v := (-1)) rfl dX4_nameOf_141 (by decide) ?_
  exact gj_iret C dX4_nameOf_142 h
set_option maxHeartbeats 4000000 in
set_option maxRecDepth 100000 in
theorem kX4_readNumber_48 {p : Program} {l : Launch} {e : Env} {s : State} {m : MethodId} {args : Array Value} {below : List Frame} {meth : Method} {c : Code} {D : va_G} {ad : Nat → Nat} {tc : Nat → ClassId} {A : Nat → Prop} (C : gj_C p s m args meth c D ad tc A cX4_readNumber 3 none RX4) {w1 : ab_W} {x0 : Nat} {x1 : Int32} {w : ab_W} (h : sX4_readNumber_48 x0 x1 w = some w1) : gj_G p l e (gj_R 1) s m args below meth c D ad tc A 3 (gj_Qv D ad tc A below args s w1) 48 [some (.ref x0), some (.int x1), none] [] w := by
  unfold sX4_readNumber_48 at h
  refine gj_aload_n C (pc' := 49) (i := 0) rfl dX4_readNumber_48 rfl rfl ?_
  refine gj_getR C (pc' := 52) rfl dX4_readNumber_49 wf_X4_12 h (fun v1 h => ?_)
  refine gj_iload_n C (pc' := 53) (i := 1) rfl dX4_readNumber_52 rfl rfl ?_
  refine gj_callVv C (pc' := 56) rfl dX4_readNumber_53 wm_X4_57 uX2_add h (kX2_add _ _ _) (by omega) rfl rfl (Nat.le_of_ble_eq_true rfl) (fun w2 h => ?_)
  exact gj_vret C dX4_readNumber_56 h
set_option maxHeartbeats 4000000 in
set_option maxRecDepth 100000 in
theorem kX4_readNumber_4 {p : Program} {l : Launch} {e : Env} {s : State} {m : MethodId} {args : Array Value} {below : List Frame} {meth : Method} {c : Code} {D : va_G} {ad : Nat → Nat} {tc : Nat → ClassId} {A : Nat → Prop} (C : gj_C p s m args meth c D ad tc A cX4_readNumber 3 none RX4) {w1 : ab_W} : ∀ {n : Nat} {x0 : Nat} {x1 : Int32} {x2 : Int32} {w : ab_W}, sX4_readNumber_4 n x0 x1 x2 w = some w1 → gj_G p l e (gj_R 1) s m args below meth c D ad tc A 3 (gj_Qv D ad tc A below args s w1) 4 [some (.ref x0), some (.int x1), some (.int x2)] [] w := by
  intro n
  induction n with
  | zero =>
    intros
    rename_i h
    cases h
  | succ n ih =>
    intro x0 x1 x2 w h
    rw [sX4_readNumber_4] at h
    refine gj_iload_n C (pc' := 5) (i := 2) rfl dX4_readNumber_4 rfl rfl ?_
    refine gj_iconst C (pc' := 6) (v := 4) rfl dX4_readNumber_5 (by decide) ?_
    refine gj_icmp_ge C (pc' := 9) (tgt := 48) rfl dX4_readNumber_6 rfl h (fun h => ?_) (fun h => ?_)
    · refine gj_aload_n C (pc' := 10) (i := 0) rfl dX4_readNumber_9 rfl rfl ?_
      refine gj_callVi C (pc' := 13) rfl dX4_readNumber_10 wm_X4_49 uX4_next h (kX4_next _ _) (by omega) rfl rfl (Nat.le_of_ble_eq_true rfl) (fun v1 w2 h => ?_)
      refine gj_callSi C (pc' := 16) rfl dX4_readNumber_13 wm_X4_61 uX4_isDigit h (kX4_isDigit _ _) (by omega) rfl rfl (Nat.le_of_ble_eq_true rfl) (fun v3 w4 h => ?_)
      refine gj_if_eq C (pc' := 19) (tgt := 48) rfl dX4_readNumber_16 rfl h (fun h => ?_) (fun h => ?_)
      · refine gj_drop (lv' := [some _, some _, none]) (And.intro rfl (And.intro rfl True.intro)) ?_
        exact kX4_readNumber_48 C h
      · refine gj_bipush C (pc' := 21) (v := 10) rfl dX4_readNumber_19 (by decide) ?_
        refine gj_iload_n C (pc' := 22) (i := 1) rfl dX4_readNumber_21 rfl rfl ?_
        refine gj_imul C (pc' := 23) rfl dX4_readNumber_22 ?_
        refine gj_aload_n C (pc' := 24) (i := 0) rfl dX4_readNumber_23 rfl rfl ?_
        refine gj_callVi C (pc' := 27) rfl dX4_readNumber_24 wm_X4_49 uX4_next h (kX4_next _ _) (by omega) rfl rfl (Nat.le_of_ble_eq_true rfl) (fun v5 w6 h => ?_)
        refine gj_iadd C (pc' := 28) rfl dX4_readNumber_27 ?_
        refine gj_bipush C (pc' := 30) (v := 48) rfl dX4_readNumber_28 (by decide) ?_
        refine gj_isub C (pc' := 31) rfl dX4_readNumber_30 ?_
        refine gj_istore_n C (pc' := 32) (i := 1) (lv' := [_, _, _]) rfl dX4_readNumber_31 rfl (by decide) rfl rfl ?_
        refine gj_aload_n C (pc' := 33) (i := 0) rfl dX4_readNumber_32 rfl rfl ?_
        refine gj_dup C (pc' := 34) rfl dX4_readNumber_33 rfl ?_
        refine gj_getI C (pc' := 37) rfl dX4_readNumber_34 wf_X4_29 h (fun v7 h => ?_)
        refine gj_iconst C (pc' := 38) (v := 1) rfl dX4_readNumber_37 (by decide) ?_
        refine gj_iadd C (pc' := 39) rfl dX4_readNumber_38 ?_
        refine gj_putI C (pc' := 42) (ty := .int) rfl dX4_readNumber_39 wf_X4_29 wp_X4_1 rfl h (fun w8 h => ?_)
        refine gj_iinc C (pc' := 45) (i := 2) (v := _ + 1) (lv' := [_, _, _]) rfl dX4_readNumber_42 rfl rfl (by decide) rfl rfl ?_
        refine gj_goto C (tgt := 4) dX4_readNumber_45 rfl ?_
        refine gj_drop (lv' := [some _, some _, some _]) (And.intro rfl (And.intro rfl (And.intro rfl True.intro))) ?_
        exact ih h
    · refine gj_drop (lv' := [some _, some _, none]) (And.intro rfl (And.intro rfl True.intro)) ?_
      exact kX4_readNumber_48 C h
set_option maxHeartbeats 4000000 in
set_option maxRecDepth 100000 in
theorem kX4_readNumber : ∀ (x0 : Nat) (w : ab_W) (w1 : ab_W), sX4_readNumber x0 w = some w1 → gj_Mv yX4_readNumber cX4_readNumber 3 none 1 [.ref x0] w w1 ∧ ab_is w 4 x0 = true := by
  intro x0 w w1 h
  unfold sX4_readNumber at h
  obtain ⟨hi, h⟩ := ab_ite h
  refine ⟨?_, hi⟩
  refine gj_Mv_of RX4 [some (.ref x0), none, none] (by decide +kernel) rfl (Nat.le_of_ble_eq_true rfl) rfl (fun p l e s m args below meth c D ad tc A C => ?_)
  refine gj_iconst C (pc' := 1) (v := 0) rfl dX4_readNumber_0 (by decide) ?_
  refine gj_istore_n C (pc' := 2) (i := 1) (lv' := [_, _, _]) rfl dX4_readNumber_1 rfl (by decide) rfl rfl ?_
  refine gj_iconst C (pc' := 3) (v := 0) rfl dX4_readNumber_2 (by decide) ?_
  refine gj_istore_n C (pc' := 4) (i := 2) (lv' := [_, _, _]) rfl dX4_readNumber_3 rfl (by decide) rfl rfl ?_
  refine gj_drop (lv' := [some _, some _, some _]) (And.intro rfl (And.intro rfl (And.intro rfl True.intro))) ?_
  exact kX4_readNumber_4 C h
set_option maxHeartbeats 4000000 in
set_option maxRecDepth 100000 in
theorem kX4_readLevel_39 {p : Program} {l : Launch} {e : Env} {s : State} {m : MethodId} {args : Array Value} {below : List Frame} {meth : Method} {c : Code} {D : va_G} {ad : Nat → Nat} {tc : Nat → ClassId} {A : Nat → Prop} (C : gj_C p s m args meth c D ad tc A cX4_readLevel 6 (some .boolean) RX4) {n0 : Nat} {r : Int32} {w1 : ab_W} {f_X4_readLevel : Nat → Int32 → Int32 → ab_W → Option (Int32 × ab_W)} {f_X4_readSingle : Nat → Int32 → ab_W → Option (Int32 × ab_W)} (hf_X4_readLevel : ∀ (x0 : Nat) (x1 : Int32) (x2 : Int32) (w : ab_W) (r : Int32) (w1 : ab_W), f_X4_readLevel x0 x1 x2 w = some (r, w1) → gj_Mi yX4_readLevel cX4_readLevel 6 (some .boolean) (2 + n0) [.ref x0, .int x1, .int x2] w r w1 ∧ ab_is w 4 x0 = true) (hf_X4_readSingle : ∀ (x0 : Nat) (x1 : Int32) (w : ab_W) (r : Int32) (w1 : ab_W), f_X4_readSingle x0 x1 w = some (r, w1) → gj_Mi yX4_readSingle cX4_readSingle 4 (some .boolean) (2 + n0) [.ref x0, .int x1] w r w1 ∧ ab_is w 4 x0 = true) : ∀ {n : Nat} {x0 : Nat} {x1 : Int32} {x2 : Int32} {x3 : Int32} {x4 : Int32} {w : ab_W}, sX4_readLevel_39 f_X4_readLevel f_X4_readSingle n x0 x1 x2 x3 x4 w = some (r, w1) → gj_G p l e (gj_R (2 + n0 + 1)) s m args below meth c D ad tc A 6 (gj_Qi D ad tc A below args s r w1) 39 [some (.ref x0), some (.int x1), some (.int x2), some (.int x3), some (.int x4), none] [] w := by
  intro n
  induction n with
  | zero =>
    intros
    rename_i h
    cases h
  | succ n ih =>
    intro x0 x1 x2 x3 x4 w h
    rw [sX4_readLevel_39] at h
    refine gj_iload C (pc' := 41) (i := 4) rfl dX4_readLevel_39 rfl ?_
    refine gj_iload_n C (pc' := 42) (i := 3) rfl dX4_readLevel_41 rfl rfl ?_
    refine gj_icmp_ge C (pc' := 45) (tgt := 104) rfl dX4_readLevel_42 rfl h (fun h => ?_) (fun h => ?_)
    · refine gj_aload_n C (pc' := 46) (i := 0) rfl dX4_readLevel_45 rfl rfl ?_
      refine gj_callVi C (pc' := 49) rfl dX4_readLevel_46 wm_X4_49 uX4_next h (kX4_next _ _) (by omega) rfl rfl (Nat.le_of_ble_eq_true rfl) (fun v1 w2 h => ?_)
      refine gj_callSi C (pc' := 52) rfl dX4_readLevel_49 wm_X4_53 uX4_levelOf h (kX4_levelOf _ _) (by omega) rfl rfl (Nat.le_of_ble_eq_true rfl) (fun v3 w4 h => ?_)
      refine gj_iload_n C (pc' := 53) (i := 1) rfl dX4_readLevel_52 rfl rfl ?_
      refine gj_icmp_ne C (pc' := 56) (tgt := 104) rfl dX4_readLevel_53 rfl h (fun h => ?_) (fun h => ?_)
      · refine gj_aload_n C (pc' := 57) (i := 0) rfl dX4_readLevel_56 rfl rfl ?_
        refine gj_callVi C (pc' := 60) rfl dX4_readLevel_57 wm_X4_49 uX4_next h (kX4_next _ _) (by omega) rfl rfl (Nat.le_of_ble_eq_true rfl) (fun v5 w6 h => ?_)
        refine gj_istore C (pc' := 62) (i := 5) (lv' := [_, _, _, _, _, _]) rfl dX4_readLevel_60 (by decide) rfl rfl ?_
        refine gj_aload_n C (pc' := 63) (i := 0) rfl dX4_readLevel_62 rfl rfl ?_
        refine gj_dup C (pc' := 64) rfl dX4_readLevel_63 rfl ?_
        refine gj_getI C (pc' := 67) rfl dX4_readLevel_64 wf_X4_29 h (fun v7 h => ?_)
        refine gj_iconst C (pc' := 68) (v := 1) rfl dX4_readLevel_67 (by decide) ?_
        refine gj_iadd C (pc' := 69) rfl dX4_readLevel_68 ?_
        refine gj_putI C (pc' := 72) (ty := .int) rfl dX4_readLevel_69 wf_X4_29 wp_X4_1 rfl h (fun w8 h => ?_)
        refine gj_aload_n C (pc' := 73) (i := 0) rfl dX4_readLevel_72 rfl rfl ?_
        refine gj_iload_n C (pc' := 74) (i := 1) rfl dX4_readLevel_73 rfl rfl ?_
        refine gj_iconst C (pc' := 75) (v := 1) rfl dX4_readLevel_74 (by decide) ?_
        refine gj_iadd C (pc' := 76) rfl dX4_readLevel_75 ?_
        refine gj_iload_n C (pc' := 77) (i := 2) rfl dX4_readLevel_76 rfl rfl ?_
        refine gj_callVi C (pc' := 80) rfl dX4_readLevel_77 wm_X4_41 uX4_readLevel h (hf_X4_readLevel _ _ _ _) (by omega) rfl rfl (Nat.le_of_ble_eq_true rfl) (fun v9 w10 h => ?_)
        refine gj_if_ne C (pc' := 83) (tgt := 85) rfl dX4_readLevel_80 rfl h (fun h => ?_) (fun h => ?_)
        · refine gj_iconst C (pc' := 84) (v := 0) rfl dX4_readLevel_83 (by decide) ?_
          exact gj_zret C dX4_readLevel_84 h
        · refine gj_aload_n C (pc' := 86) (i := 0) rfl dX4_readLevel_85 rfl rfl ?_
          refine gj_getR C (pc' := 89) rfl dX4_readLevel_86 wf_X4_12 h (fun v11 h => ?_)
          refine gj_sipush C (pc' := 92) (v := 20000) rfl dX4_readLevel_89 (by decide) ?_
          refine gj_iload C (pc' := 94) (i := 5) rfl dX4_readLevel_92 rfl ?_
          refine gj_iadd C (pc' := 95) rfl dX4_readLevel_94 ?_
          refine gj_callVv C (pc' := 98) rfl dX4_readLevel_95 wm_X4_57 uX2_add h (kX2_add _ _ _) (by omega) rfl rfl (Nat.le_of_ble_eq_true rfl) (fun w12 h => ?_)
          refine gj_iinc C (pc' := 101) (i := 4) (v := _ + 1) (lv' := [_, _, _, _, _, _]) rfl dX4_readLevel_98 rfl rfl (by decide) rfl rfl ?_
          refine gj_goto C (tgt := 39) dX4_readLevel_101 rfl ?_
          refine gj_drop (lv' := [some _, some _, some _, some _, some _, none]) (And.intro rfl (And.intro rfl (And.intro rfl (And.intro rfl (And.intro rfl True.intro))))) ?_
          exact ih h
      · refine gj_iconst C (pc' := 105) (v := 1) rfl dX4_readLevel_104 (by decide) ?_
        exact gj_zret C dX4_readLevel_105 h
    · refine gj_iconst C (pc' := 105) (v := 1) rfl dX4_readLevel_104 (by decide) ?_
      exact gj_zret C dX4_readLevel_105 h
set_option maxHeartbeats 4000000 in
set_option maxRecDepth 100000 in
theorem kX4_readLevel_35 {p : Program} {l : Launch} {e : Env} {s : State} {m : MethodId} {args : Array Value} {below : List Frame} {meth : Method} {c : Code} {D : va_G} {ad : Nat → Nat} {tc : Nat → ClassId} {A : Nat → Prop} (C : gj_C p s m args meth c D ad tc A cX4_readLevel 6 (some .boolean) RX4) {n0 : Nat} {r : Int32} {w1 : ab_W} {f_X4_readLevel : Nat → Int32 → Int32 → ab_W → Option (Int32 × ab_W)} {f_X4_readSingle : Nat → Int32 → ab_W → Option (Int32 × ab_W)} (hf_X4_readLevel : ∀ (x0 : Nat) (x1 : Int32) (x2 : Int32) (w : ab_W) (r : Int32) (w1 : ab_W), f_X4_readLevel x0 x1 x2 w = some (r, w1) → gj_Mi yX4_readLevel cX4_readLevel 6 (some .boolean) (2 + n0) [.ref x0, .int x1, .int x2] w r w1 ∧ ab_is w 4 x0 = true) (hf_X4_readSingle : ∀ (x0 : Nat) (x1 : Int32) (w : ab_W) (r : Int32) (w1 : ab_W), f_X4_readSingle x0 x1 w = some (r, w1) → gj_Mi yX4_readSingle cX4_readSingle 4 (some .boolean) (2 + n0) [.ref x0, .int x1] w r w1 ∧ ab_is w 4 x0 = true) {x0 : Nat} {x1 : Int32} {x2 : Int32} {p0 : Int32} {w : ab_W} (h : sX4_readLevel_35 f_X4_readLevel f_X4_readSingle x0 x1 x2 p0 w = some (r, w1)) : gj_G p l e (gj_R (2 + n0 + 1)) s m args below meth c D ad tc A 6 (gj_Qi D ad tc A below args s r w1) 35 [some (.ref x0), some (.int x1), some (.int x2), none, none, none] [.int p0] w := by
  unfold sX4_readLevel_35 at h
  refine gj_istore_n C (pc' := 36) (i := 3) (lv' := [_, _, _, _, _, _]) rfl dX4_readLevel_35 rfl (by decide) rfl rfl ?_
  refine gj_iconst C (pc' := 37) (v := 0) rfl dX4_readLevel_36 (by decide) ?_
  refine gj_istore C (pc' := 39) (i := 4) (lv' := [_, _, _, _, _, _]) rfl dX4_readLevel_37 (by decide) rfl rfl ?_
  refine gj_drop (lv' := [some _, some _, some _, some _, some _, none]) (And.intro rfl (And.intro rfl (And.intro rfl (And.intro rfl (And.intro rfl True.intro))))) ?_
  exact kX4_readLevel_39 C hf_X4_readLevel hf_X4_readSingle h
set_option maxHeartbeats 4000000 in
set_option maxRecDepth 100000 in
theorem kbX4_readLevel {n0 : Nat} {f_X4_readLevel : Nat → Int32 → Int32 → ab_W → Option (Int32 × ab_W)} {f_X4_readSingle : Nat → Int32 → ab_W → Option (Int32 × ab_W)} (hf_X4_readLevel : ∀ (x0 : Nat) (x1 : Int32) (x2 : Int32) (w : ab_W) (r : Int32) (w1 : ab_W), f_X4_readLevel x0 x1 x2 w = some (r, w1) → gj_Mi yX4_readLevel cX4_readLevel 6 (some .boolean) (2 + n0) [.ref x0, .int x1, .int x2] w r w1 ∧ ab_is w 4 x0 = true) (hf_X4_readSingle : ∀ (x0 : Nat) (x1 : Int32) (w : ab_W) (r : Int32) (w1 : ab_W), f_X4_readSingle x0 x1 w = some (r, w1) → gj_Mi yX4_readSingle cX4_readSingle 4 (some .boolean) (2 + n0) [.ref x0, .int x1] w r w1 ∧ ab_is w 4 x0 = true) : ∀ (x0 : Nat) (x1 : Int32) (x2 : Int32) (w : ab_W) (r : Int32) (w1 : ab_W), bX4_readLevel f_X4_readLevel f_X4_readSingle x0 x1 x2 w = some (r, w1) → gj_Mi yX4_readLevel cX4_readLevel 6 (some .boolean) (2 + n0 + 1) [.ref x0, .int x1, .int x2] w r w1 ∧ ab_is w 4 x0 = true := by
  intro x0 x1 x2 w r w1 h
  unfold bX4_readLevel at h
  obtain ⟨hi, h⟩ := ab_ite h
  refine ⟨?_, hi⟩
  refine gj_Mi_of RX4 [some (.ref x0), some (.int x1), some (.int x2), none, none, none] (by decide +kernel) rfl (Nat.le_of_ble_eq_true rfl) rfl (fun p l e s m args below meth c D ad tc A C => ?_)
  refine gj_iload_n C (pc' := 1) (i := 1) rfl dX4_readLevel_0 rfl rfl ?_
  refine gj_iconst C (pc' := 2) (v := 5) rfl dX4_readLevel_1 (by decide) ?_
  refine gj_icmp_lt C (pc' := 5) (tgt := 11) rfl dX4_readLevel_2 rfl h (fun h => ?_) (fun h => ?_)
  · refine gj_aload_n C (pc' := 12) (i := 0) rfl dX4_readLevel_11 rfl rfl ?_
    refine gj_iload_n C (pc' := 13) (i := 1) rfl dX4_readLevel_12 rfl rfl ?_
    refine gj_iconst C (pc' := 14) (v := 1) rfl dX4_readLevel_13 (by decide) ?_
    refine gj_iadd C (pc' := 15) rfl dX4_readLevel_14 ?_
    refine gj_iload_n C (pc' := 16) (i := 2) rfl dX4_readLevel_15 rfl rfl ?_
    refine gj_callVi C (pc' := 19) rfl dX4_readLevel_16 wm_X4_41 uX4_readLevel h (hf_X4_readLevel _ _ _ _) (by omega) rfl rfl (Nat.le_of_ble_eq_true rfl) (fun v1 w2 h => ?_)
    refine gj_if_ne C (pc' := 22) (tgt := 24) rfl dX4_readLevel_19 rfl h (fun h => ?_) (fun h => ?_)
    · refine gj_iconst C (pc' := 23) (v := 0) rfl dX4_readLevel_22 (by decide) ?_
      exact gj_zret C dX4_readLevel_23 h
    · refine gj_iload_n C (pc' := 25) (i := 1) rfl dX4_readLevel_24 rfl rfl ?_
      refine gj_iconst C (pc' := 26) (v := 2) rfl dX4_readLevel_25 (by decide) ?_
      refine gj_icmp_ne C (pc' := 29) (tgt := 33) rfl dX4_readLevel_26 rfl h (fun h => ?_) (fun h => ?_)
      · refine gj_iconst C (pc' := 30) (v := 1) rfl dX4_readLevel_29 (by decide) ?_
        refine gj_goto C (tgt := 35) dX4_readLevel_30 rfl ?_
        refine gj_drop (lv' := [some _, some _, some _, none, none, none]) (And.intro rfl (And.intro rfl (And.intro rfl True.intro))) ?_
        exact kX4_readLevel_35 C hf_X4_readLevel hf_X4_readSingle h
      · refine gj_bipush C (pc' := 35) (v := 50) rfl dX4_readLevel_33 (by decide) ?_
        refine gj_drop (lv' := [some _, some _, some _, none, none, none]) (And.intro rfl (And.intro rfl (And.intro rfl True.intro))) ?_
        exact kX4_readLevel_35 C hf_X4_readLevel hf_X4_readSingle h
  · refine gj_aload_n C (pc' := 6) (i := 0) rfl dX4_readLevel_5 rfl rfl ?_
    refine gj_iload_n C (pc' := 7) (i := 2) rfl dX4_readLevel_6 rfl rfl ?_
    refine gj_callVi C (pc' := 10) rfl dX4_readLevel_7 wm_X4_45 uX4_readSingle h (hf_X4_readSingle _ _ _) (by omega) rfl rfl (Nat.le_of_ble_eq_true rfl) (fun v3 w4 h => ?_)
    exact gj_zret C dX4_readLevel_10 h
set_option maxHeartbeats 4000000 in
set_option maxRecDepth 100000 in
theorem kX4_readSingle_30 {p : Program} {l : Launch} {e : Env} {s : State} {m : MethodId} {args : Array Value} {below : List Frame} {meth : Method} {c : Code} {D : va_G} {ad : Nat → Nat} {tc : Nat → ClassId} {A : Nat → Prop} (C : gj_C p s m args meth c D ad tc A cX4_readSingle 4 (some .boolean) RX4) {n0 : Nat} {r : Int32} {w1 : ab_W} {f_X4_readInside : Nat → Int32 → Int32 → ab_W → Option (Int32 × ab_W)} (hf_X4_readInside : ∀ (x0 : Nat) (x1 : Int32) (x2 : Int32) (w : ab_W) (r : Int32) (w1 : ab_W), f_X4_readInside x0 x1 x2 w = some (r, w1) → gj_Mi yX4_readInside cX4_readInside 4 (some .boolean) (2 + n0) [.ref x0, .int x1, .int x2] w r w1 ∧ ab_is w 4 x0 = true) {x0 : Nat} {x1 : Int32} {x2 : Int32} {w : ab_W} (h : sX4_readSingle_30 f_X4_readInside x0 x1 x2 w = some (r, w1)) : gj_G p l e (gj_R (2 + n0 + 1)) s m args below meth c D ad tc A 4 (gj_Qi D ad tc A below args s r w1) 30 [some (.ref x0), some (.int x1), some (.int x2), none] [] w := by
  unfold sX4_readSingle_30 at h
  refine gj_iload_n C (pc' := 31) (i := 1) rfl dX4_readSingle_30 rfl rfl ?_
  refine gj_iconst C (pc' := 32) (v := 5) rfl dX4_readSingle_31 (by decide) ?_
  refine gj_icmp_ge C (pc' := 35) (tgt := 50) rfl dX4_readSingle_32 rfl h (fun h => ?_) (fun h => ?_)
  · refine gj_aload_n C (pc' := 36) (i := 0) rfl dX4_readSingle_35 rfl rfl ?_
    refine gj_iload_n C (pc' := 37) (i := 2) rfl dX4_readSingle_36 rfl rfl ?_
    refine gj_iload_n C (pc' := 38) (i := 1) rfl dX4_readSingle_37 rfl rfl ?_
    refine gj_iconst C (pc' := 39) (v := 1) rfl dX4_readSingle_38 (by decide) ?_
    refine gj_iadd C (pc' := 40) rfl dX4_readSingle_39 ?_
    refine gj_callVi C (pc' := 43) rfl dX4_readSingle_40 wm_X4_67 uX4_readInside h (hf_X4_readInside _ _ _ _) (by omega) rfl rfl (Nat.le_of_ble_eq_true rfl) (fun v1 w2 h => ?_)
    refine gj_if_eq C (pc' := 46) (tgt := 50) rfl dX4_readSingle_43 rfl h (fun h => ?_) (fun h => ?_)
    · refine gj_iconst C (pc' := 51) (v := 0) rfl dX4_readSingle_50 (by decide) ?_
      exact gj_zret C dX4_readSingle_51 h
    · refine gj_iconst C (pc' := 47) (v := 1) rfl dX4_readSingle_46 (by decide) ?_
      refine gj_goto C (tgt := 51) dX4_readSingle_47 rfl ?_
      exact gj_zret C dX4_readSingle_51 h
  · refine gj_iconst C (pc' := 51) (v := 0) rfl dX4_readSingle_50 (by decide) ?_
    exact gj_zret C dX4_readSingle_51 h
set_option maxHeartbeats 4000000 in
set_option maxRecDepth 100000 in
theorem kbX4_readSingle {n0 : Nat} {f_X4_readInside : Nat → Int32 → Int32 → ab_W → Option (Int32 × ab_W)} (hf_X4_readInside : ∀ (x0 : Nat) (x1 : Int32) (x2 : Int32) (w : ab_W) (r : Int32) (w1 : ab_W), f_X4_readInside x0 x1 x2 w = some (r, w1) → gj_Mi yX4_readInside cX4_readInside 4 (some .boolean) (2 + n0) [.ref x0, .int x1, .int x2] w r w1 ∧ ab_is w 4 x0 = true) : ∀ (x0 : Nat) (x1 : Int32) (w : ab_W) (r : Int32) (w1 : ab_W), bX4_readSingle f_X4_readInside x0 x1 w = some (r, w1) → gj_Mi yX4_readSingle cX4_readSingle 4 (some .boolean) (2 + n0 + 1) [.ref x0, .int x1] w r w1 ∧ ab_is w 4 x0 = true := by
  intro x0 x1 w r w1 h
  unfold bX4_readSingle at h
  obtain ⟨hi, h⟩ := ab_ite h
  refine ⟨?_, hi⟩
  refine gj_Mi_of RX4 [some (.ref x0), some (.int x1), none, none] (by decide +kernel) rfl (Nat.le_of_ble_eq_true rfl) rfl (fun p l e s m args below meth c D ad tc A C => ?_)
  refine gj_aload_n C (pc' := 1) (i := 0) rfl dX4_readSingle_0 rfl rfl ?_
  refine gj_callVi C (pc' := 4) rfl dX4_readSingle_1 wm_X4_49 uX4_next h (kX4_next _ _) (by omega) rfl rfl (Nat.le_of_ble_eq_true rfl) (fun v1 w2 h => ?_)
  refine gj_istore_n C (pc' := 5) (i := 2) (lv' := [_, _, _, _]) rfl dX4_readSingle_4 rfl (by decide) rfl rfl ?_
  refine gj_iload_n C (pc' := 6) (i := 2) rfl dX4_readSingle_5 rfl rfl ?_
  refine gj_callSi C (pc' := 9) rfl dX4_readSingle_6 wm_X4_61 uX4_isDigit h (kX4_isDigit _ _) (by omega) rfl rfl (Nat.le_of_ble_eq_true rfl) (fun v3 w4 h => ?_)
  refine gj_if_eq C (pc' := 12) (tgt := 18) rfl dX4_readSingle_9 rfl h (fun h => ?_) (fun h => ?_)
  · refine gj_iload_n C (pc' := 19) (i := 2) rfl dX4_readSingle_18 rfl rfl ?_
    refine gj_bipush C (pc' := 21) (v := 33) rfl dX4_readSingle_19 (by decide) ?_
    refine gj_icmp_eq C (pc' := 24) (tgt := 30) rfl dX4_readSingle_21 rfl h (fun h => ?_) (fun h => ?_)
    · refine gj_drop (lv' := [some _, some _, some _, none]) (And.intro rfl (And.intro rfl (And.intro rfl True.intro))) ?_
      exact kX4_readSingle_30 C hf_X4_readInside h
    · refine gj_iload_n C (pc' := 25) (i := 2) rfl dX4_readSingle_24 rfl rfl ?_
      refine gj_bipush C (pc' := 27) (v := 40) rfl dX4_readSingle_25 (by decide) ?_
      refine gj_icmp_ne C (pc' := 30) (tgt := 52) rfl dX4_readSingle_27 rfl h (fun h => ?_) (fun h => ?_)
      · refine gj_drop (lv' := [some _, some _, some _, none]) (And.intro rfl (And.intro rfl (And.intro rfl True.intro))) ?_
        exact kX4_readSingle_30 C hf_X4_readInside h
      · refine gj_aload_n C (pc' := 53) (i := 0) rfl dX4_readSingle_52 rfl rfl ?_
        refine gj_iload_n C (pc' := 54) (i := 2) rfl dX4_readSingle_53 rfl rfl ?_
        refine gj_callVi C (pc' := 57) rfl dX4_readSingle_54 wm_X4_70 uX4_nameOf h (kX4_nameOf _ _ _) (by omega) rfl rfl (Nat.le_of_ble_eq_true rfl) (fun v5 w6 h => ?_)
        refine gj_istore_n C (pc' := 58) (i := 3) (lv' := [_, _, _, _]) rfl dX4_readSingle_57 rfl (by decide) rfl rfl ?_
        refine gj_iload_n C (pc' := 59) (i := 3) rfl dX4_readSingle_58 rfl rfl ?_
        refine gj_if_ge C (pc' := 62) (tgt := 64) rfl dX4_readSingle_59 rfl h (fun h => ?_) (fun h => ?_)
        · refine gj_iconst C (pc' := 63) (v := 0) rfl dX4_readSingle_62 (by decide) ?_
          exact gj_zret C dX4_readSingle_63 h
        · refine gj_aload_n C (pc' := 65) (i := 0) rfl dX4_readSingle_64 rfl rfl ?_
          refine gj_dup C (pc' := 66) rfl dX4_readSingle_65 rfl ?_
          refine gj_getI C (pc' := 69) rfl dX4_readSingle_66 wf_X4_29 h (fun v7 h => ?_)
          refine gj_iconst C (pc' := 70) (v := 1) rfl dX4_readSingle_69 (by decide) ?_
          refine gj_iadd C (pc' := 71) rfl dX4_readSingle_70 ?_
          refine gj_putI C (pc' := 74) (ty := .int) rfl dX4_readSingle_71 wf_X4_29 wp_X4_1 rfl h (fun w8 h => ?_)
          refine gj_aload_n C (pc' := 75) (i := 0) rfl dX4_readSingle_74 rfl rfl ?_
          refine gj_getR C (pc' := 78) rfl dX4_readSingle_75 wf_X4_12 h (fun v9 h => ?_)
          refine gj_sipush C (pc' := 81) (v := 10000) rfl dX4_readSingle_78 (by decide) ?_
          refine gj_iload_n C (pc' := 82) (i := 3) rfl dX4_readSingle_81 rfl rfl ?_
          refine gj_iadd C (pc' := 83) rfl dX4_readSingle_82 ?_
          refine gj_callVv C (pc' := 86) rfl dX4_readSingle_83 wm_X4_57 uX2_add h (kX2_add _ _ _) (by omega) rfl rfl (Nat.le_of_ble_eq_true rfl) (fun w10 h => ?_)
          refine gj_iconst C (pc' := 87) (v := 1) rfl dX4_readSingle_86 (by decide) ?_
          exact gj_zret C dX4_readSingle_87 h
  · refine gj_aload_n C (pc' := 13) (i := 0) rfl dX4_readSingle_12 rfl rfl ?_
    refine gj_callVv C (pc' := 16) rfl dX4_readSingle_13 wm_X4_64 uX4_readNumber h (kX4_readNumber _ _) (by omega) rfl rfl (Nat.le_of_ble_eq_true rfl) (fun w11 h => ?_)
    refine gj_iconst C (pc' := 17) (v := 1) rfl dX4_readSingle_16 (by decide) ?_
    exact gj_zret C dX4_readSingle_17 h
set_option maxHeartbeats 4000000 in
set_option maxRecDepth 100000 in
theorem kbX4_readInside {n0 : Nat} {f_X4_readLevel : Nat → Int32 → Int32 → ab_W → Option (Int32 × ab_W)} {f_X4_readSingle : Nat → Int32 → ab_W → Option (Int32 × ab_W)} (hf_X4_readLevel : ∀ (x0 : Nat) (x1 : Int32) (x2 : Int32) (w : ab_W) (r : Int32) (w1 : ab_W), f_X4_readLevel x0 x1 x2 w = some (r, w1) → gj_Mi yX4_readLevel cX4_readLevel 6 (some .boolean) (2 + n0) [.ref x0, .int x1, .int x2] w r w1 ∧ ab_is w 4 x0 = true) (hf_X4_readSingle : ∀ (x0 : Nat) (x1 : Int32) (w : ab_W) (r : Int32) (w1 : ab_W), f_X4_readSingle x0 x1 w = some (r, w1) → gj_Mi yX4_readSingle cX4_readSingle 4 (some .boolean) (2 + n0) [.ref x0, .int x1] w r w1 ∧ ab_is w 4 x0 = true) : ∀ (x0 : Nat) (x1 : Int32) (x2 : Int32) (w : ab_W) (r : Int32) (w1 : ab_W), bX4_readInside f_X4_readLevel f_X4_readSingle x0 x1 x2 w = some (r, w1) → gj_Mi yX4_readInside cX4_readInside 4 (some .boolean) (2 + n0 + 1) [.ref x0, .int x1, .int x2] w r w1 ∧ ab_is w 4 x0 = true := by
  intro x0 x1 x2 w r w1 h
  unfold bX4_readInside at h
  obtain ⟨hi, h⟩ := ab_ite h
  refine ⟨?_, hi⟩
  refine gj_Mi_of RX4 [some (.ref x0), some (.int x1), some (.int x2), none] (by decide +kernel) rfl (Nat.le_of_ble_eq_true rfl) rfl (fun p l e s m args below meth c D ad tc A C => ?_)
  refine gj_aload_n C (pc' := 1) (i := 0) rfl dX4_readInside_0 rfl rfl ?_
  refine gj_dup C (pc' := 2) rfl dX4_readInside_1 rfl ?_
  refine gj_getI C (pc' := 5) rfl dX4_readInside_2 wf_X4_29 h (fun v1 h => ?_)
  refine gj_iconst C (pc' := 6) (v := 1) rfl dX4_readInside_5 (by decide) ?_
  refine gj_iadd C (pc' := 7) rfl dX4_readInside_6 ?_
  refine gj_putI C (pc' := 10) (ty := .int) rfl dX4_readInside_7 wf_X4_29 wp_X4_1 rfl h (fun w2 h => ?_)
  refine gj_iload_n C (pc' := 11) (i := 1) rfl dX4_readInside_10 rfl rfl ?_
  refine gj_bipush C (pc' := 13) (v := 33) rfl dX4_readInside_11 (by decide) ?_
  refine gj_icmp_ne C (pc' := 16) (tgt := 34) rfl dX4_readInside_13 rfl h (fun h => ?_) (fun h => ?_)
  · refine gj_aload_n C (pc' := 17) (i := 0) rfl dX4_readInside_16 rfl rfl ?_
    refine gj_iload_n C (pc' := 18) (i := 2) rfl dX4_readInside_17 rfl rfl ?_
    refine gj_callVi C (pc' := 21) rfl dX4_readInside_18 wm_X4_45 uX4_readSingle h (hf_X4_readSingle _ _ _) (by omega) rfl rfl (Nat.le_of_ble_eq_true rfl) (fun v3 w4 h => ?_)
    refine gj_istore_n C (pc' := 22) (i := 3) (lv' := [_, _, _, _]) rfl dX4_readInside_21 rfl (by decide) rfl rfl ?_
    refine gj_aload_n C (pc' := 23) (i := 0) rfl dX4_readInside_22 rfl rfl ?_
    refine gj_getR C (pc' := 26) rfl dX4_readInside_23 wf_X4_12 h (fun v5 h => ?_)
    refine gj_sipush C (pc' := 29) (v := 20033) rfl dX4_readInside_26 (by decide) ?_
    refine gj_callVv C (pc' := 32) rfl dX4_readInside_29 wm_X4_57 uX2_add h (kX2_add _ _ _) (by omega) rfl rfl (Nat.le_of_ble_eq_true rfl) (fun w6 h => ?_)
    refine gj_iload_n C (pc' := 33) (i := 3) rfl dX4_readInside_32 rfl rfl ?_
    exact gj_zret C dX4_readInside_33 h
  · refine gj_aload_n C (pc' := 35) (i := 0) rfl dX4_readInside_34 rfl rfl ?_
    refine gj_iconst C (pc' := 36) (v := 0) rfl dX4_readInside_35 (by decide) ?_
    refine gj_iload_n C (pc' := 37) (i := 2) rfl dX4_readInside_36 rfl rfl ?_
    refine gj_callVi C (pc' := 40) rfl dX4_readInside_37 wm_X4_41 uX4_readLevel h (hf_X4_readLevel _ _ _ _) (by omega) rfl rfl (Nat.le_of_ble_eq_true rfl) (fun v7 w8 h => ?_)
    refine gj_if_eq C (pc' := 43) (tgt := 52) rfl dX4_readInside_40 rfl h (fun h => ?_) (fun h => ?_)
    · refine gj_iconst C (pc' := 53) (v := 0) rfl dX4_readInside_52 (by decide) ?_
      exact gj_zret C dX4_readInside_53 h
    · refine gj_aload_n C (pc' := 44) (i := 0) rfl dX4_readInside_43 rfl rfl ?_
      refine gj_callVi C (pc' := 47) rfl dX4_readInside_44 wm_X4_49 uX4_next h (kX4_next _ _) (by omega) rfl rfl (Nat.le_of_ble_eq_true rfl) (fun v9 w10 h => ?_)
      refine gj_bipush C (pc' := 49) (v := 41) rfl dX4_readInside_47 (by decide) ?_
      refine gj_icmp_eq C (pc' := 52) (tgt := 54) rfl dX4_readInside_49 rfl h (fun h => ?_) (fun h => ?_)
      · refine gj_aload_n C (pc' := 55) (i := 0) rfl dX4_readInside_54 rfl rfl ?_
        refine gj_dup C (pc' := 56) rfl dX4_readInside_55 rfl ?_
        refine gj_getI C (pc' := 59) rfl dX4_readInside_56 wf_X4_29 h (fun v11 h => ?_)
        refine gj_iconst C (pc' := 60) (v := 1) rfl dX4_readInside_59 (by decide) ?_
        refine gj_iadd C (pc' := 61) rfl dX4_readInside_60 ?_
        refine gj_putI C (pc' := 64) (ty := .int) rfl dX4_readInside_61 wf_X4_29 wp_X4_1 rfl h (fun w12 h => ?_)
        refine gj_iconst C (pc' := 65) (v := 1) rfl dX4_readInside_64 (by decide) ?_
        exact gj_zret C dX4_readInside_65 h
      · refine gj_iconst C (pc' := 53) (v := 0) rfl dX4_readInside_52 (by decide) ?_
        exact gj_zret C dX4_readInside_53 h
set_option maxHeartbeats 4000000 in
set_option maxRecDepth 100000 in
theorem kgX4_readLevel : ∀ n : Nat, (∀ (x0 : Nat) (x1 : Int32) (x2 : Int32) (w : ab_W) (r : Int32) (w1 : ab_W), sX4_readLevel n x0 x1 x2 w = some (r, w1) → gj_Mi yX4_readLevel cX4_readLevel 6 (some .boolean) (2 + n) [.ref x0, .int x1, .int x2] w r w1 ∧ ab_is w 4 x0 = true) ∧ (∀ (x0 : Nat) (x1 : Int32) (w : ab_W) (r : Int32) (w1 : ab_W), sX4_readSingle n x0 x1 w = some (r, w1) → gj_Mi yX4_readSingle cX4_readSingle 4 (some .boolean) (2 + n) [.ref x0, .int x1] w r w1 ∧ ab_is w 4 x0 = true) ∧ (∀ (x0 : Nat) (x1 : Int32) (x2 : Int32) (w : ab_W) (r : Int32) (w1 : ab_W), sX4_readInside n x0 x1 x2 w = some (r, w1) → gj_Mi yX4_readInside cX4_readInside 4 (some .boolean) (2 + n) [.ref x0, .int x1, .int x2] w r w1 ∧ ab_is w 4 x0 = true) := by
  intro n
  induction n with
  | zero => exact ⟨(by intros; rename_i h; cases h), (by intros; rename_i h; cases h), (by intros; rename_i h; cases h)⟩
  | succ n ih =>
    obtain ⟨hX4_readLevel, hX4_readSingle, hX4_readInside⟩ := ih
    exact ⟨kbX4_readLevel hX4_readLevel hX4_readSingle, kbX4_readSingle hX4_readInside, kbX4_readInside hX4_readLevel hX4_readSingle⟩
set_option maxHeartbeats 4000000 in
set_option maxRecDepth 100000 in
theorem kX4_readLevel (n : Nat) : ∀ (x0 : Nat) (x1 : Int32) (x2 : Int32) (w : ab_W) (r : Int32) (w1 : ab_W), sX4_readLevel n x0 x1 x2 w = some (r, w1) → gj_Mi yX4_readLevel cX4_readLevel 6 (some .boolean) (2 + n) [.ref x0, .int x1, .int x2] w r w1 ∧ ab_is w 4 x0 = true := (kgX4_readLevel n).1
set_option maxHeartbeats 4000000 in
set_option maxRecDepth 100000 in
theorem kX4_readSingle (n : Nat) : ∀ (x0 : Nat) (x1 : Int32) (w : ab_W) (r : Int32) (w1 : ab_W), sX4_readSingle n x0 x1 w = some (r, w1) → gj_Mi yX4_readSingle cX4_readSingle 4 (some .boolean) (2 + n) [.ref x0, .int x1] w r w1 ∧ ab_is w 4 x0 = true := (kgX4_readLevel n).2.1
set_option maxHeartbeats 4000000 in
set_option maxRecDepth 100000 in
theorem kX4_readInside (n : Nat) : ∀ (x0 : Nat) (x1 : Int32) (x2 : Int32) (w : ab_W) (r : Int32) (w1 : ab_W), sX4_readInside n x0 x1 x2 w = some (r, w1) → gj_Mi yX4_readInside cX4_readInside 4 (some .boolean) (2 + n) [.ref x0, .int x1, .int x2] w r w1 ∧ ab_is w 4 x0 = true := (kgX4_readLevel n).2.2
set_option maxHeartbeats 4000000 in
set_option maxRecDepth 100000 in
theorem kX4_read : ∀ (x0 : Nat) (x1 : Nat) (x2 : Int32) (x3 : Int32) (w : ab_W) (r : Int32) (w1 : ab_W), sX4_read x0 x1 x2 x3 w = some (r, w1) → gj_Mi yX4_read cX4_read 4 (some .boolean) 103 [.ref x0, .ref x1, .int x2, .int x3] w r w1 ∧ ab_is w 4 x0 = true := by
  intro x0 x1 x2 x3 w r w1 h
  unfold sX4_read at h
  obtain ⟨hi, h⟩ := ab_ite h
  refine ⟨?_, hi⟩
  refine gj_Mi_of RX4 [some (.ref x0), some (.ref x1), some (.int x2), some (.int x3)] (by decide +kernel) rfl (Nat.le_of_ble_eq_true rfl) rfl (fun p l e s m args below meth c D ad tc A C => ?_)
  refine gj_aload_n C (pc' := 1) (i := 0) rfl dX4_read_0 rfl rfl ?_
  refine gj_aload_n C (pc' := 2) (i := 1) rfl dX4_read_1 rfl rfl ?_
  refine gj_putR C (pc' := 5) (ty := .array .int) rfl dX4_read_2 wf_X4_18 wp_X4_2 (fun _ => rfl) rfl h (fun w1 h => ?_)
  refine gj_aload_n C (pc' := 6) (i := 0) rfl dX4_read_5 rfl rfl ?_
  refine gj_iload_n C (pc' := 7) (i := 2) rfl dX4_read_6 rfl rfl ?_
  refine gj_aload_n C (pc' := 8) (i := 1) rfl dX4_read_7 rfl rfl ?_
  refine gj_alen C (pc' := 9) rfl dX4_read_8 h (fun v2 h => ?_)
  refine gj_mmin C (pc' := 12) (gj_R1 (by omega)) rfl dX4_read_9 wm_X4_32 w_mmin (Nat.le_of_ble_eq_true rfl) ?_
  refine gj_putI C (pc' := 15) (ty := .int) rfl dX4_read_12 wf_X4_22 wp_X4_3 rfl h (fun w3 h => ?_)
  refine gj_aload_n C (pc' := 16) (i := 0) rfl dX4_read_15 rfl rfl ?_
  refine gj_iload_n C (pc' := 17) (i := 3) rfl dX4_read_16 rfl rfl ?_
  refine gj_putI C (pc' := 20) (ty := .int) rfl dX4_read_17 wf_X4_26 wp_X4_4 rfl h (fun w4 h => ?_)
  refine gj_aload_n C (pc' := 21) (i := 0) rfl dX4_read_20 rfl rfl ?_
  refine gj_iconst C (pc' := 22) (v := 0) rfl dX4_read_21 (by decide) ?_
  refine gj_putI C (pc' := 25) (ty := .int) rfl dX4_read_22 wf_X4_29 wp_X4_1 rfl h (fun w5 h => ?_)
  refine gj_aload_n C (pc' := 26) (i := 0) rfl dX4_read_25 rfl rfl ?_
  refine gj_getR C (pc' := 29) rfl dX4_read_26 wf_X4_12 h (fun v6 h => ?_)
  refine gj_callVv C (pc' := 32) rfl dX4_read_29 wm_X4_38 uX2_clear h (kX2_clear _ _) (by omega) rfl rfl (Nat.le_of_ble_eq_true rfl) (fun w7 h => ?_)
  refine gj_aload_n C (pc' := 33) (i := 0) rfl dX4_read_32 rfl rfl ?_
  refine gj_iconst C (pc' := 34) (v := 0) rfl dX4_read_33 (by decide) ?_
  refine gj_iconst C (pc' := 35) (v := 0) rfl dX4_read_34 (by decide) ?_
  refine gj_callVi C (pc' := 38) rfl dX4_read_35 wm_X4_41 uX4_readLevel h (kX4_readLevel 100 _ _ _ _) (by omega) rfl rfl (Nat.le_of_ble_eq_true rfl) (fun v8 w9 h => ?_)
  refine gj_if_eq C (pc' := 41) (tgt := 56) rfl dX4_read_38 rfl h (fun h => ?_) (fun h => ?_)
  · refine gj_iconst C (pc' := 57) (v := 0) rfl dX4_read_56 (by decide) ?_
    exact gj_zret C dX4_read_57 h
  · refine gj_aload_n C (pc' := 42) (i := 0) rfl dX4_read_41 rfl rfl ?_
    refine gj_getI C (pc' := 45) rfl dX4_read_42 wf_X4_29 h (fun v10 h => ?_)
    refine gj_aload_n C (pc' := 46) (i := 0) rfl dX4_read_45 rfl rfl ?_
    refine gj_getI C (pc' := 49) rfl dX4_read_46 wf_X4_22 h (fun v11 h => ?_)
    refine gj_icmp_ne C (pc' := 52) (tgt := 56) rfl dX4_read_49 rfl h (fun h => ?_) (fun h => ?_)
    · refine gj_iconst C (pc' := 53) (v := 1) rfl dX4_read_52 (by decide) ?_
      refine gj_goto C (tgt := 57) dX4_read_53 rfl ?_
      exact gj_zret C dX4_read_57 h
    · refine gj_iconst C (pc' := 57) (v := 0) rfl dX4_read_56 (by decide) ?_
      exact gj_zret C dX4_read_57 h
set_option maxHeartbeats 4000000 in
set_option maxRecDepth 100000 in
theorem kX9_text : ∀ (x0 : Nat) (x1 : Int32) (w : ab_W) (r : Int32) (w1 : ab_W), sX9_text x0 x1 w = some (r, w1) → gj_Mi yX9_text cX9_text 3 (some .int) 104 [.ref x0, .int x1] w r w1 ∧ ab_is w 9 x0 = true := by
  intro x0 x1 w r w1 h
  unfold sX9_text at h
  obtain ⟨hi, h⟩ := ab_ite h
  refine ⟨?_, hi⟩
  refine gj_Mi_of RX9 [some (.ref x0), some (.int x1), none] (by decide +kernel) rfl (Nat.le_of_ble_eq_true rfl) rfl (fun p l e s m args below meth c D ad tc A C => ?_)
  refine gj_iload_n C (pc' := 1) (i := 1) rfl dX9_text_0 rfl rfl ?_
  refine gj_iconst C (pc' := 2) (v := 0) rfl dX9_text_1 (by decide) ?_
  refine gj_iconst C (pc' := 3) (v := 1) rfl dX9_text_2 (by decide) ?_
  refine gj_callSi C (pc' := 6) rfl dX9_text_3 wm_X9_62 uX9_within h (kX9_within _ _ _ _) (by omega) rfl rfl (Nat.le_of_ble_eq_true rfl) (fun v1 w2 h => ?_)
  refine gj_if_ne C (pc' := 9) (tgt := 15) rfl dX9_text_6 rfl h (fun h => ?_) (fun h => ?_)
  · refine gj_aload_n C (pc' := 10) (i := 0) rfl dX9_text_9 rfl rfl ?_
    refine gj_iconst C (pc' := 11) (v := 1) rfl dX9_text_10 (by decide) ?_
    refine gj_callVi C (pc' := 14) rfl dX9_text_11 wm_X9_66 uX9_fail h (kX9_fail _ _ _) (by omega) rfl rfl (Nat.le_of_ble_eq_true rfl) (fun v3 w4 h => ?_)
    exact gj_iret C dX9_text_14 h
  · refine gj_aload_n C (pc' := 16) (i := 0) rfl dX9_text_15 rfl rfl ?_
    refine gj_getR C (pc' := 19) rfl dX9_text_16 wf_X9_47 h (fun v5 h => ?_)
    refine gj_aload_n C (pc' := 20) (i := 0) rfl dX9_text_19 rfl rfl ?_
    refine gj_getR C (pc' := 23) rfl dX9_text_20 wf_X9_30 h (fun v6 h => ?_)
    refine gj_getR C (pc' := 26) rfl dX9_text_23 wf_X9_133 h (fun v7 h => ?_)
    refine gj_aload_n C (pc' := 27) (i := 0) rfl dX9_text_26 rfl rfl ?_
    refine gj_getR C (pc' := 30) rfl dX9_text_27 wf_X9_30 h (fun v8 h => ?_)
    refine gj_getI C (pc' := 33) rfl dX9_text_30 wf_X9_130 h (fun v9 h => ?_)
    refine gj_iload_n C (pc' := 34) (i := 1) rfl dX9_text_33 rfl rfl ?_
    refine gj_callVi C (pc' := 37) rfl dX9_text_34 wm_X9_138 uX4_read h (kX4_read _ _ _ _ _) (by omega) rfl rfl (Nat.le_of_ble_eq_true rfl) (fun v10 w11 h => ?_)
    refine gj_istore_n C (pc' := 38) (i := 2) (lv' := [_, _, _]) rfl dX9_text_37 rfl (by decide) rfl rfl ?_
    refine gj_aload_n C (pc' := 39) (i := 0) rfl dX9_text_38 rfl rfl ?_
    refine gj_getR C (pc' := 42) rfl dX9_text_39 wf_X9_30 h (fun v12 h => ?_)
    refine gj_iconst C (pc' := 43) (v := 0) rfl dX9_text_42 (by decide) ?_
    refine gj_putI C (pc' := 46) (ty := .int) rfl dX9_text_43 wf_X9_130 wp_X0_7 rfl h (fun w13 h => ?_)
    refine gj_iload_n C (pc' := 47) (i := 2) rfl dX9_text_46 rfl rfl ?_
    refine gj_if_ne C (pc' := 50) (tgt := 61) rfl dX9_text_47 rfl h (fun h => ?_) (fun h => ?_)
    · refine gj_bipush C (pc' := 52) (v := (-10)) rfl dX9_text_50 (by decide) ?_
      refine gj_aload_n C (pc' := 53) (i := 0) rfl dX9_text_52 rfl rfl ?_
      refine gj_getR C (pc' := 56) rfl dX9_text_53 wf_X9_47 h (fun v14 h => ?_)
      refine gj_getI C (pc' := 59) rfl dX9_text_56 wf_X9_142 h (fun v15 h => ?_)
      refine gj_isub C (pc' := 60) rfl dX9_text_59 ?_
      exact gj_iret C dX9_text_60 h
    · refine gj_aload_n C (pc' := 62) (i := 0) rfl dX9_text_61 rfl rfl ?_
      refine gj_getR C (pc' := 65) rfl dX9_text_62 wf_X9_30 h (fun v16 h => ?_)
      refine gj_getR C (pc' := 68) rfl dX9_text_65 wf_X9_145 h (fun v17 h => ?_)
      refine gj_iload_n C (pc' := 69) (i := 1) rfl dX9_text_68 rfl rfl ?_
      refine gj_rald C (pc' := 70) (t := 2) rfl dX9_text_69 rfl h (fun v18 h => ?_)
      refine gj_aload_n C (pc' := 71) (i := 0) rfl dX9_text_70 rfl rfl ?_
      refine gj_getR C (pc' := 74) rfl dX9_text_71 wf_X9_47 h (fun v19 h => ?_)
      refine gj_getR C (pc' := 77) rfl dX9_text_74 wf_X9_149 h (fun v20 h => ?_)
      refine gj_callVv C (pc' := 80) rfl dX9_text_77 wm_X9_153 uX2_copyFrom h (kX2_copyFrom _ _ _) (by omega) rfl rfl (Nat.le_of_ble_eq_true rfl) (fun w21 h => ?_)
      refine gj_iconst C (pc' := 81) (v := 1) rfl dX9_text_80 (by decide) ?_
      exact gj_iret C dX9_text_81 h
set_option maxHeartbeats 4000000 in
set_option maxRecDepth 100000 in
theorem kX2_isMissing : ∀ (x0 : Nat) (w : ab_W) (r : Int32) (w1 : ab_W), sX2_isMissing x0 w = some (r, w1) → gj_Mi yX2_isMissing cX2_isMissing 1 (some .boolean) 0 [.ref x0] w r w1 ∧ ab_is w 2 x0 = true := by
  intro x0 w r w1 h
  unfold sX2_isMissing at h
  obtain ⟨hi, h⟩ := ab_ite h
  refine ⟨?_, hi⟩
  refine gj_Mi_of RX2 [some (.ref x0)] (by decide +kernel) rfl (Nat.le_of_ble_eq_true rfl) rfl (fun p l e s m args below meth c D ad tc A C => ?_)
  refine gj_aload_n C (pc' := 1) (i := 0) rfl dX2_isMissing_0 rfl rfl ?_
  refine gj_getI C (pc' := 4) rfl dX2_isMissing_1 wf_X2_18 h (fun v1 h => ?_)
  refine gj_if_ne C (pc' := 7) (tgt := 11) rfl dX2_isMissing_4 rfl h (fun h => ?_) (fun h => ?_)
  · refine gj_iconst C (pc' := 8) (v := 1) rfl dX2_isMissing_7 (by decide) ?_
    refine gj_goto C (tgt := 12) dX2_isMissing_8 rfl ?_
    exact gj_zret C dX2_isMissing_12 h
  · refine gj_iconst C (pc' := 12) (v := 0) rfl dX2_isMissing_11 (by decide) ?_
    exact gj_zret C dX2_isMissing_12 h
set_option maxHeartbeats 4000000 in
set_option maxRecDepth 100000 in
theorem kX2_joined_100 {p : Program} {l : Launch} {e : Env} {s : State} {m : MethodId} {args : Array Value} {below : List Frame} {meth : Method} {c : Code} {D : va_G} {ad : Nat → Nat} {tc : Nat → ClassId} {A : Nat → Prop} (C : gj_C p s m args meth c D ad tc A cX2_joined 3 (some .int) RX2) {r : Int32} {w1 : ab_W} {w : ab_W} (h : sX2_joined_100  w = some (r, w1)) : gj_G p l e (gj_R 0) s m args below meth c D ad tc A 3 (gj_Qi D ad tc A below args s r w1) 100 [none, none, none] [] w := by
  unfold sX2_joined_100 at h
  refine gj_iconst C (pc' := 101) (v := 1) rfl dX2_joined_100 (by decide) ?_
  refine gj_goto C (tgt := 105) dX2_joined_101 rfl ?_
  exact gj_iret C dX2_joined_105 h
set_option maxHeartbeats 4000000 in
set_option maxRecDepth 100000 in
theorem kX2_joined : ∀ (x0 : Int32) (x1 : Int32) (x2 : Int32) (w : ab_W) (r : Int32) (w1 : ab_W), sX2_joined x0 x1 x2 w = some (r, w1) → gj_Mi yX2_joined cX2_joined 3 (some .int) 0 [.int x0, .int x1, .int x2] w r w1 := by
  intro x0 x1 x2 w r w1 h
  unfold sX2_joined at h
  refine gj_Mi_of RX2 [some (.int x0), some (.int x1), some (.int x2)] (by decide +kernel) rfl (Nat.le_of_ble_eq_true rfl) rfl (fun p l e s m args below meth c D ad tc A C => ?_)
  refine gj_iload_n C (pc' := 1) (i := 0) rfl dX2_joined_0 rfl rfl ?_
  refine gj_look C (tgt := 177) dX2_joined_1 37 (by decide) rfl (by decide) h (fun h => ?_) (fun n1_0 h => ?_)
  · refine gj_iload_n C (pc' := 178) (i := 2) rfl dX2_joined_177 rfl rfl ?_
    refine gj_if_ne C (pc' := 181) (tgt := 185) rfl dX2_joined_178 rfl h (fun h => ?_) (fun h => ?_)
    · refine gj_iconst C (pc' := 182) (v := 0) rfl dX2_joined_181 (by decide) ?_
      refine gj_goto C (tgt := 188) dX2_joined_182 rfl ?_
      exact gj_iret C dX2_joined_188 h
    · refine gj_iload_n C (pc' := 186) (i := 1) rfl dX2_joined_185 rfl rfl ?_
      refine gj_iload_n C (pc' := 187) (i := 2) rfl dX2_joined_186 rfl rfl ?_
      refine gj_irem C (pc' := 188) rfl dX2_joined_187 h (fun v1 h => ?_)
      exact gj_iret C dX2_joined_188 h
  refine gj_look C (tgt := 106) dX2_joined_1 38 (by decide) rfl (by decide) h (fun h => ?_) (fun n1_1 h => ?_)
  · refine gj_iload_n C (pc' := 107) (i := 1) rfl dX2_joined_106 rfl rfl ?_
    refine gj_if_eq C (pc' := 110) (tgt := 118) rfl dX2_joined_107 rfl h (fun h => ?_) (fun h => ?_)
    · refine gj_iconst C (pc' := 119) (v := 0) rfl dX2_joined_118 (by decide) ?_
      exact gj_iret C dX2_joined_119 h
    · refine gj_iload_n C (pc' := 111) (i := 2) rfl dX2_joined_110 rfl rfl ?_
      refine gj_if_eq C (pc' := 114) (tgt := 118) rfl dX2_joined_111 rfl h (fun h => ?_) (fun h => ?_)
      · refine gj_iconst C (pc' := 119) (v := 0) rfl dX2_joined_118 (by decide) ?_
        exact gj_iret C dX2_joined_119 h
      · refine gj_iconst C (pc' := 115) (v := 1) rfl dX2_joined_114 (by decide) ?_
        refine gj_goto C (tgt := 119) dX2_joined_115 rfl ?_
        exact gj_iret C dX2_joined_119 h
  refine gj_look C (tgt := 161) dX2_joined_1 42 (by decide) rfl (by decide) h (fun h => ?_) (fun n1_2 h => ?_)
  · refine gj_iload_n C (pc' := 162) (i := 1) rfl dX2_joined_161 rfl rfl ?_
    refine gj_iload_n C (pc' := 163) (i := 2) rfl dX2_joined_162 rfl rfl ?_
    refine gj_imul C (pc' := 164) rfl dX2_joined_163 ?_
    exact gj_iret C dX2_joined_164 h
  refine gj_look C (tgt := 153) dX2_joined_1 43 (by decide) rfl (by decide) h (fun h => ?_) (fun n1_3 h => ?_)
  · refine gj_iload_n C (pc' := 154) (i := 1) rfl dX2_joined_153 rfl rfl ?_
    refine gj_iload_n C (pc' := 155) (i := 2) rfl dX2_joined_154 rfl rfl ?_
    refine gj_iadd C (pc' := 156) rfl dX2_joined_155 ?_
    exact gj_iret C dX2_joined_156 h
  refine gj_look C (tgt := 157) dX2_joined_1 45 (by decide) rfl (by decide) h (fun h => ?_) (fun n1_4 h => ?_)
  · refine gj_iload_n C (pc' := 158) (i := 1) rfl dX2_joined_157 rfl rfl ?_
    refine gj_iload_n C (pc' := 159) (i := 2) rfl dX2_joined_158 rfl rfl ?_
    refine gj_isub C (pc' := 160) rfl dX2_joined_159 ?_
    exact gj_iret C dX2_joined_160 h
  refine gj_look C (tgt := 165) dX2_joined_1 47 (by decide) rfl (by decide) h (fun h => ?_) (fun n1_5 h => ?_)
  · refine gj_iload_n C (pc' := 166) (i := 2) rfl dX2_joined_165 rfl rfl ?_
    refine gj_if_ne C (pc' := 169) (tgt := 173) rfl dX2_joined_166 rfl h (fun h => ?_) (fun h => ?_)
    · refine gj_iconst C (pc' := 170) (v := 0) rfl dX2_joined_169 (by decide) ?_
      refine gj_goto C (tgt := 176) dX2_joined_170 rfl ?_
      exact gj_iret C dX2_joined_176 h
    · refine gj_iload_n C (pc' := 174) (i := 1) rfl dX2_joined_173 rfl rfl ?_
      refine gj_iload_n C (pc' := 175) (i := 2) rfl dX2_joined_174 rfl rfl ?_
      refine gj_idiv C (pc' := 176) rfl dX2_joined_175 h (fun v2 h => ?_)
      exact gj_iret C dX2_joined_176 h
  refine gj_look C (tgt := 120) dX2_joined_1 60 (by decide) rfl (by decide) h (fun h => ?_) (fun n1_6 h => ?_)
  · refine gj_iload_n C (pc' := 121) (i := 1) rfl dX2_joined_120 rfl rfl ?_
    refine gj_iload_n C (pc' := 122) (i := 2) rfl dX2_joined_121 rfl rfl ?_
    refine gj_icmp_ge C (pc' := 125) (tgt := 129) rfl dX2_joined_122 rfl h (fun h => ?_) (fun h => ?_)
    · refine gj_iconst C (pc' := 126) (v := 1) rfl dX2_joined_125 (by decide) ?_
      refine gj_goto C (tgt := 130) dX2_joined_126 rfl ?_
      exact gj_iret C dX2_joined_130 h
    · refine gj_iconst C (pc' := 130) (v := 0) rfl dX2_joined_129 (by decide) ?_
      exact gj_iret C dX2_joined_130 h
  refine gj_look C (tgt := 131) dX2_joined_1 61 (by decide) rfl (by decide) h (fun h => ?_) (fun n1_7 h => ?_)
  · refine gj_iload_n C (pc' := 132) (i := 1) rfl dX2_joined_131 rfl rfl ?_
    refine gj_iload_n C (pc' := 133) (i := 2) rfl dX2_joined_132 rfl rfl ?_
    refine gj_icmp_ne C (pc' := 136) (tgt := 140) rfl dX2_joined_133 rfl h (fun h => ?_) (fun h => ?_)
    · refine gj_iconst C (pc' := 137) (v := 1) rfl dX2_joined_136 (by decide) ?_
      refine gj_goto C (tgt := 141) dX2_joined_137 rfl ?_
      exact gj_iret C dX2_joined_141 h
    · refine gj_iconst C (pc' := 141) (v := 0) rfl dX2_joined_140 (by decide) ?_
      exact gj_iret C dX2_joined_141 h
  refine gj_look C (tgt := 142) dX2_joined_1 62 (by decide) rfl (by decide) h (fun h => ?_) (fun n1_8 h => ?_)
  · refine gj_iload_n C (pc' := 143) (i := 1) rfl dX2_joined_142 rfl rfl ?_
    refine gj_iload_n C (pc' := 144) (i := 2) rfl dX2_joined_143 rfl rfl ?_
    refine gj_icmp_le C (pc' := 147) (tgt := 151) rfl dX2_joined_144 rfl h (fun h => ?_) (fun h => ?_)
    · refine gj_iconst C (pc' := 148) (v := 1) rfl dX2_joined_147 (by decide) ?_
      refine gj_goto C (tgt := 152) dX2_joined_148 rfl ?_
      exact gj_iret C dX2_joined_152 h
    · refine gj_iconst C (pc' := 152) (v := 0) rfl dX2_joined_151 (by decide) ?_
      exact gj_iret C dX2_joined_152 h
  refine gj_look C (tgt := 92) dX2_joined_1 124 (by decide) rfl (by decide) h (fun h => ?_) (fun n1_9 h => ?_)
  · refine gj_iload_n C (pc' := 93) (i := 1) rfl dX2_joined_92 rfl rfl ?_
    refine gj_if_ne C (pc' := 96) (tgt := 100) rfl dX2_joined_93 rfl h (fun h => ?_) (fun h => ?_)
    · refine gj_iload_n C (pc' := 97) (i := 2) rfl dX2_joined_96 rfl rfl ?_
      refine gj_if_eq C (pc' := 100) (tgt := 104) rfl dX2_joined_97 rfl h (fun h => ?_) (fun h => ?_)
      · refine gj_iconst C (pc' := 105) (v := 0) rfl dX2_joined_104 (by decide) ?_
        exact gj_iret C dX2_joined_105 h
      · refine gj_drop (lv' := [none, none, none]) True.intro ?_
        exact kX2_joined_100 C h
    · refine gj_drop (lv' := [none, none, none]) True.intro ?_
      exact kX2_joined_100 C h
  refine gj_lookD C (tgt := 189) dX2_joined_1 (by decide) (by decide) (by show Op.lookupswitch.offset (_ :: _) _ _ = _; rw [lv_osw n1_0 (by decide), lv_osw n1_1 (by decide), lv_osw n1_2 (by decide), lv_osw n1_3 (by decide), lv_osw n1_4 (by decide), lv_osw n1_5 (by decide), lv_osw n1_6 (by decide), lv_osw n1_7 (by decide), lv_osw n1_8 (by decide), lv_osw n1_9 (by decide)]; try rfl) ?_
  refine gj_iconst C (pc' := 190) (v := 0) rfl dX2_joined_189 (by decide) ?_
  exact gj_iret C dX2_joined_190 h
