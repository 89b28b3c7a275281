set_option maxHeartbeats 4000000 in
set_option maxRecDepth 100000 in
theorem kX5_lowestBits : ∀ (x0 : Nat) (x1 : Int32) (w : ab_W) (r : Int32) (w1 : ab_W), sX5_lowestBits x0 x1 w = some (r, w1) → gj_Mi yX5_lowestBits cX5_lowestBits 2 (some .int) 0 [.ref x0, .int x1] w r w1 ∧ ab_is w 5 x0 = true := by
  intro x0 x1 w r w1 h
  unfold sX5_lowestBits at h
  obtain ⟨hi, h⟩ := ab_ite h
  refine ⟨?_, hi⟩
  refine gj_Mi_of RX5 [some (.ref x0), some (.int x1)] (by decide +kernel) rfl (Nat.le_of_ble_eq_true rfl) rfl (fun p l e s m args below meth c D ad tc A C => ?_)
  refine gj_aload_n C (pc' := 1) (i := 0) rfl dX5_lowestBits_0 rfl rfl ?_
  refine gj_getI C (pc' := 4) rfl dX5_lowestBits_1 wf_X5_15 h (fun v1 h => ?_)
  refine gj_bipush C (pc' := 6) (v := 8) rfl dX5_lowestBits_4 (by decide) ?_
  refine gj_icmp_ne C (pc' := 9) (tgt := 12) rfl dX5_lowestBits_6 rfl h (fun h => ?_) (fun h => ?_)
  · refine gj_iload_n C (pc' := 10) (i := 1) rfl dX5_lowestBits_9 rfl rfl ?_
    refine gj_i2b C (pc' := 11) rfl dX5_lowestBits_10 ?_
    exact gj_iret C dX5_lowestBits_11 h
  · refine gj_aload_n C (pc' := 13) (i := 0) rfl dX5_lowestBits_12 rfl rfl ?_
    refine gj_getI C (pc' := 16) rfl dX5_lowestBits_13 wf_X5_15 h (fun v2 h => ?_)
    refine gj_bipush C (pc' := 18) (v := 16) rfl dX5_lowestBits_16 (by decide) ?_
    refine gj_icmp_ne C (pc' := 21) (tgt := 26) rfl dX5_lowestBits_18 rfl h (fun h => ?_) (fun h => ?_)
    · refine gj_iload_n C (pc' := 22) (i := 1) rfl dX5_lowestBits_21 rfl rfl ?_
      refine gj_i2s C (pc' := 23) rfl dX5_lowestBits_22 ?_
      refine gj_goto C (tgt := 27) dX5_lowestBits_23 rfl ?_
      exact gj_iret C dX5_lowestBits_27 h
    · refine gj_iload_n C (pc' := 27) (i := 1) rfl dX5_lowestBits_26 rfl rfl ?_
      exact gj_iret C dX5_lowestBits_27 h
set_option maxHeartbeats 4000000 in
set_option maxRecDepth 100000 in
theorem kX9_put : ∀ (x0 : Nat) (x1 : Int32) (x2 : Int32) (x3 : Int32) (w : ab_W) (r : Int32) (w1 : ab_W), sX9_put x0 x1 x2 x3 w = some (r, w1) → gj_Mi yX9_put cX9_put 5 (some .int) 2 [.ref x0, .int x1, .int x2, .int x3] w r w1 ∧ ab_is w 9 x0 = true := by
  intro x0 x1 x2 x3 w r w1 h
  unfold sX9_put at h
  obtain ⟨hi, h⟩ := ab_ite h
  refine ⟨?_, hi⟩
  refine gj_Mi_of RX9 [some (.ref x0), some (.int x1), some (.int x2), some (.int x3), none] (by decide +kernel) rfl (Nat.le_of_ble_eq_true rfl) rfl (fun p l e s m args below meth c D ad tc A C => ?_)
  refine gj_iload_n C (pc' := 1) (i := 1) rfl dX9_put_0 rfl rfl ?_
  refine gj_iconst C (pc' := 2) (v := 0) rfl dX9_put_1 (by decide) ?_
  refine gj_iconst C (pc' := 3) (v := 3) rfl dX9_put_2 (by decide) ?_
  refine gj_callSi C (pc' := 6) rfl dX9_put_3 wm_X9_62 uX9_within h (kX9_within _ _ _ _) (by omega) rfl rfl (Nat.le_of_ble_eq_true rfl) (fun v1 w2 h => ?_)
  refine gj_if_ne C (pc' := 9) (tgt := 15) rfl dX9_put_6 rfl h (fun h => ?_) (fun h => ?_)
  · refine gj_aload_n C (pc' := 10) (i := 0) rfl dX9_put_9 rfl rfl ?_
    refine gj_iconst C (pc' := 11) (v := 1) rfl dX9_put_10 (by decide) ?_
    refine gj_callVi C (pc' := 14) rfl dX9_put_11 wm_X9_66 uX9_fail h (kX9_fail _ _ _) (by omega) rfl rfl (Nat.le_of_ble_eq_true rfl) (fun v3 w4 h => ?_)
    exact gj_iret C dX9_put_14 h
  · refine gj_aload_n C (pc' := 16) (i := 0) rfl dX9_put_15 rfl rfl ?_
    refine gj_getR C (pc' := 19) rfl dX9_put_16 wf_X9_15 h (fun v5 h => ?_)
    refine gj_iload_n C (pc' := 20) (i := 1) rfl dX9_put_19 rfl rfl ?_
    refine gj_rald C (pc' := 21) (t := 3) rfl dX9_put_20 rfl h (fun v6 h => ?_)
    refine gj_astore C (pc' := 23) (i := 4) (lv' := [_, _, _, _, _]) rfl dX9_put_21 (by decide) rfl rfl ?_
    refine gj_aload C (pc' := 25) (i := 4) rfl dX9_put_23 rfl ?_
    refine gj_callVi C (pc' := 28) rfl dX9_put_25 wm_X9_226 uX5_isMissing h (kX5_isMissing _ _) (by omega) rfl rfl (Nat.le_of_ble_eq_true rfl) (fun v7 w8 h => ?_)
    refine gj_if_eq C (pc' := 31) (tgt := 37) rfl dX9_put_28 rfl h (fun h => ?_) (fun h => ?_)
    · refine gj_iload_n C (pc' := 38) (i := 2) rfl dX9_put_37 rfl rfl ?_
      refine gj_iconst C (pc' := 39) (v := 0) rfl dX9_put_38 (by decide) ?_
      refine gj_aload C (pc' := 41) (i := 4) rfl dX9_put_39 rfl ?_
      refine gj_getI C (pc' := 44) rfl dX9_put_41 wf_X9_230 h (fun v9 h => ?_)
      refine gj_iconst C (pc' := 45) (v := 1) rfl dX9_put_44 (by decide) ?_
      refine gj_isub C (pc' := 46) rfl dX9_put_45 ?_
      refine gj_callSi C (pc' := 49) rfl dX9_put_46 wm_X9_62 uX9_within h (kX9_within _ _ _ _) (by omega) rfl rfl (Nat.le_of_ble_eq_true rfl) (fun v10 w11 h => ?_)
      refine gj_if_ne C (pc' := 52) (tgt := 58) rfl dX9_put_49 rfl h (fun h => ?_) (fun h => ?_)
      · refine gj_aload_n C (pc' := 53) (i := 0) rfl dX9_put_52 rfl rfl ?_
        refine gj_iconst C (pc' := 54) (v := 1) rfl dX9_put_53 (by decide) ?_
        refine gj_callVi C (pc' := 57) rfl dX9_put_54 wm_X9_66 uX9_fail h (kX9_fail _ _ _) (by omega) rfl rfl (Nat.le_of_ble_eq_true rfl) (fun v12 w13 h => ?_)
        exact gj_iret C dX9_put_57 h
      · refine gj_aload C (pc' := 60) (i := 4) rfl dX9_put_58 rfl ?_
        refine gj_getR C (pc' := 63) rfl dX9_put_60 wf_X9_231 h (fun v14 h => ?_)
        refine gj_iload_n C (pc' := 64) (i := 2) rfl dX9_put_63 rfl rfl ?_
        refine gj_aload C (pc' := 66) (i := 4) rfl dX9_put_64 rfl ?_
        refine gj_iload_n C (pc' := 67) (i := 3) rfl dX9_put_66 rfl rfl ?_
        refine gj_callVi C (pc' := 70) rfl dX9_put_67 wm_X9_277 uX5_lowestBits h (kX5_lowestBits _ _ _) (by omega) rfl rfl (Nat.le_of_ble_eq_true rfl) (fun v15 w16 h => ?_)
        refine gj_iast C (pc' := 71) rfl dX9_put_70 h (fun w17 h => ?_)
        refine gj_iconst C (pc' := 72) (v := 1) rfl dX9_put_71 (by decide) ?_
        exact gj_iret C dX9_put_72 h
    · refine gj_aload_n C (pc' := 32) (i := 0) rfl dX9_put_31 rfl rfl ?_
      refine gj_iconst C (pc' := 33) (v := 2) rfl dX9_put_32 (by decide) ?_
      refine gj_callVi C (pc' := 36) rfl dX9_put_33 wm_X9_66 uX9_fail h (kX9_fail _ _ _) (by omega) rfl rfl (Nat.le_of_ble_eq_true rfl) (fun v18 w19 h => ?_)
      exact gj_iret C dX9_put_36 h
set_option maxHeartbeats 4000000 in
set_option maxRecDepth 100000 in
theorem kX5_holds : ∀ (x0 : Nat) (x1 : Int32) (x2 : Int32) (w : ab_W) (r : Int32) (w1 : ab_W), sX5_holds x0 x1 x2 w = some (r, w1) → gj_Mi yX5_holds cX5_holds 3 (some .boolean) 0 [.ref x0, .int x1, .int x2] w r w1 ∧ ab_is w 5 x0 = true := by
  intro x0 x1 x2 w r w1 h
  unfold sX5_holds at h
  obtain ⟨hi, h⟩ := ab_ite h
  refine ⟨?_, hi⟩
  refine gj_Mi_of RX5 [some (.ref x0), some (.int x1), some (.int x2)] (by decide +kernel) rfl (Nat.le_of_ble_eq_true rfl) rfl (fun p l e s m args below meth c D ad tc A C => ?_)
  refine gj_iload_n C (pc' := 1) (i := 1) rfl dX5_holds_0 rfl rfl ?_
  refine gj_if_lt C (pc' := 4) (tgt := 30) rfl dX5_holds_1 rfl h (fun h => ?_) (fun h => ?_)
  · refine gj_iconst C (pc' := 31) (v := 0) rfl dX5_holds_30 (by decide) ?_
    exact gj_zret C dX5_holds_31 h
  · refine gj_iload_n C (pc' := 5) (i := 2) rfl dX5_holds_4 rfl rfl ?_
    refine gj_if_lt C (pc' := 8) (tgt := 30) rfl dX5_holds_5 rfl h (fun h => ?_) (fun h => ?_)
    · refine gj_iconst C (pc' := 31) (v := 0) rfl dX5_holds_30 (by decide) ?_
      exact gj_zret C dX5_holds_31 h
    · refine gj_iload_n C (pc' := 9) (i := 2) rfl dX5_holds_8 rfl rfl ?_
      refine gj_aload_n C (pc' := 10) (i := 0) rfl dX5_holds_9 rfl rfl ?_
      refine gj_getI C (pc' := 13) rfl dX5_holds_10 wf_X5_19 h (fun v1 h => ?_)
      refine gj_icmp_gt C (pc' := 16) (tgt := 30) rfl dX5_holds_13 rfl h (fun h => ?_) (fun h => ?_)
      · refine gj_iconst C (pc' := 31) (v := 0) rfl dX5_holds_30 (by decide) ?_
        exact gj_zret C dX5_holds_31 h
      · refine gj_iload_n C (pc' := 17) (i := 1) rfl dX5_holds_16 rfl rfl ?_
        refine gj_aload_n C (pc' := 18) (i := 0) rfl dX5_holds_17 rfl rfl ?_
        refine gj_getI C (pc' := 21) rfl dX5_holds_18 wf_X5_19 h (fun v2 h => ?_)
        refine gj_iload_n C (pc' := 22) (i := 2) rfl dX5_holds_21 rfl rfl ?_
        refine gj_isub C (pc' := 23) rfl dX5_holds_22 ?_
        refine gj_icmp_gt C (pc' := 26) (tgt := 30) rfl dX5_holds_23 rfl h (fun h => ?_) (fun h => ?_)
        · refine gj_iconst C (pc' := 31) (v := 0) rfl dX5_holds_30 (by decide) ?_
          exact gj_zret C dX5_holds_31 h
        · refine gj_iconst C (pc' := 27) (v := 1) rfl dX5_holds_26 (by decide) ?_
          refine gj_goto C (tgt := 31) dX5_holds_27 rfl ?_
          exact gj_zret C dX5_holds_31 h
set_option maxHeartbeats 4000000 in
set_option maxRecDepth 100000 in
theorem kX9_move_18 {p : Program} {l : Launch} {e : Env} {s : State} {m : MethodId} {args : Array Value} {below : List Frame} {meth : Method} {c : Code} {D : va_G} {ad : Nat → Nat} {tc : Nat → ClassId} {A : Nat → Prop} (C : gj_C p s m args meth c D ad tc A cX9_move 8 (some .int) RX9) {r : Int32} {w1 : ab_W} {x0 : Nat} {w : ab_W} (h : sX9_move_18 x0 w = some (r, w1)) : gj_G p l e (gj_R 2) s m args below meth c D ad tc A 8 (gj_Qi D ad tc A below args s r w1) 18 [some (.ref x0), none, none, none, none, none, none, none] [] w := by
  unfold sX9_move_18 at h
  refine gj_aload_n C (pc' := 19) (i := 0) rfl dX9_move_18 rfl rfl ?_
  refine gj_iconst C (pc' := 20) (v := 1) rfl dX9_move_19 (by decide) ?_
  refine gj_callVi C (pc' := 23) rfl dX9_move_20 wm_X9_66 uX9_fail h (kX9_fail _ _ _) (by omega) rfl rfl (Nat.le_of_ble_eq_true rfl) (fun v1 w2 h => ?_)
  exact gj_iret C dX9_move_23 h
set_option maxHeartbeats 4000000 in
set_option maxRecDepth 100000 in
theorem kX9_move_56 {p : Program} {l : Launch} {e : Env} {s : State} {m : MethodId} {args : Array Value} {below : List Frame} {meth : Method} {c : Code} {D : va_G} {ad : Nat → Nat} {tc : Nat → ClassId} {A : Nat → Prop} (C : gj_C p s m args meth c D ad tc A cX9_move 8 (some .int) RX9) {r : Int32} {w1 : ab_W} {x0 : Nat} {w : ab_W} (h : sX9_move_56 x0 w = some (r, w1)) : gj_G p l e (gj_R 2) s m args below meth c D ad tc A 8 (gj_Qi D ad tc A below args s r w1) 56 [some (.ref x0), none, none, none, none, none, none, none] [] w := by
  unfold sX9_move_56 at h
  refine gj_aload_n C (pc' := 57) (i := 0) rfl dX9_move_56 rfl rfl ?_
  refine gj_iconst C (pc' := 58) (v := 2) rfl dX9_move_57 (by decide) ?_
  refine gj_callVi C (pc' := 61) rfl dX9_move_58 wm_X9_66 uX9_fail h (kX9_fail _ _ _) (by omega) rfl rfl (Nat.le_of_ble_eq_true rfl) (fun v1 w2 h => ?_)
  exact gj_iret C dX9_move_61 h
set_option maxHeartbeats 4000000 in
set_option maxRecDepth 100000 in
theorem kX9_move_104 {p : Program} {l : Launch} {e : Env} {s : State} {m : MethodId} {args : Array Value} {below : List Frame} {meth : Method} {c : Code} {D : va_G} {ad : Nat → Nat} {tc : Nat → ClassId} {A : Nat → Prop} (C : gj_C p s m args meth c D ad tc A cX9_move 8 (some .int) RX9) {r : Int32} {w1 : ab_W} {x0 : Nat} {w : ab_W} (h : sX9_move_104 x0 w = some (r, w1)) : gj_G p l e (gj_R 2) s m args below meth c D ad tc A 8 (gj_Qi D ad tc A below args s r w1) 104 [some (.ref x0), none, none, none, none, none, none, none] [] w := by
  unfold sX9_move_104 at h
  refine gj_aload_n C (pc' := 105) (i := 0) rfl dX9_move_104 rfl rfl ?_
  refine gj_iconst C (pc' := 106) (v := 1) rfl dX9_move_105 (by decide) ?_
  refine gj_callVi C (pc' := 109) rfl dX9_move_106 wm_X9_66 uX9_fail h (kX9_fail _ _ _) (by omega) rfl rfl (Nat.le_of_ble_eq_true rfl) (fun v1 w2 h => ?_)
  exact gj_iret C dX9_move_109 h
set_option maxHeartbeats 4000000 in
set_option maxRecDepth 100000 in
theorem kX9_move : ∀ (x0 : Nat) (x1 : Int32) (x2 : Int32) (x3 : Int32) (x4 : Int32) (x5 : Int32) (w : ab_W) (r : Int32) (w1 : ab_W), sX9_move x0 x1 x2 x3 x4 x5 w = some (r, w1) → gj_Mi yX9_move cX9_move 8 (some .int) 2 [.ref x0, .int x1, .int x2, .int x3, .int x4, .int x5] w r w1 ∧ ab_is w 9 x0 = true := by
  intro x0 x1 x2 x3 x4 x5 w r w1 h
  unfold sX9_move at h
  obtain ⟨hi, h⟩ := ab_ite h
  refine ⟨?_, hi⟩
  refine gj_Mi_of RX9 [some (.ref x0), some (.int x1), some (.int x2), some (.int x3), some (.int x4), some (.int x5), none, none] (by decide +kernel) rfl (Nat.le_of_ble_eq_true rfl) rfl (fun p l e s m args below meth c D ad tc A C => ?_)
  refine gj_iload_n C (pc' := 1) (i := 1) rfl dX9_move_0 rfl rfl ?_
  refine gj_iconst C (pc' := 2) (v := 0) rfl dX9_move_1 (by decide) ?_
  refine gj_iconst C (pc' := 3) (v := 3) rfl dX9_move_2 (by decide) ?_
  refine gj_callSi C (pc' := 6) rfl dX9_move_3 wm_X9_62 uX9_within h (kX9_within _ _ _ _) (by omega) rfl rfl (Nat.le_of_ble_eq_true rfl) (fun v1 w2 h => ?_)
  refine gj_if_eq C (pc' := 9) (tgt := 18) rfl dX9_move_6 rfl h (fun h => ?_) (fun h => ?_)
  · refine gj_drop (lv' := [some _, none, none, none, none, none, none, none]) (And.intro rfl True.intro) ?_
    exact kX9_move_18 C h
  · refine gj_iload_n C (pc' := 10) (i := 3) rfl dX9_move_9 rfl rfl ?_
    refine gj_iconst C (pc' := 11) (v := 0) rfl dX9_move_10 (by decide) ?_
    refine gj_iconst C (pc' := 12) (v := 3) rfl dX9_move_11 (by decide) ?_
    refine gj_callSi C (pc' := 15) rfl dX9_move_12 wm_X9_62 uX9_within h (kX9_within _ _ _ _) (by omega) rfl rfl (Nat.le_of_ble_eq_true rfl) (fun v3 w4 h => ?_)
    refine gj_if_ne C (pc' := 18) (tgt := 24) rfl dX9_move_15 rfl h (fun h => ?_) (fun h => ?_)
    · refine gj_drop (lv' := [some _, none, none, none, none, none, none, none]) (And.intro rfl True.intro) ?_
      exact kX9_move_18 C h
    · refine gj_aload_n C (pc' := 25) (i := 0) rfl dX9_move_24 rfl rfl ?_
      refine gj_getR C (pc' := 28) rfl dX9_move_25 wf_X9_15 h (fun v5 h => ?_)
      refine gj_iload_n C (pc' := 29) (i := 1) rfl dX9_move_28 rfl rfl ?_
      refine gj_rald C (pc' := 30) (t := 3) rfl dX9_move_29 rfl h (fun v6 h => ?_)
      refine gj_astore C (pc' := 32) (i := 6) (lv' := [_, _, _, _, _, _, _, _]) rfl dX9_move_30 (by decide) rfl rfl ?_
      refine gj_aload_n C (pc' := 33) (i := 0) rfl dX9_move_32 rfl rfl ?_
      refine gj_getR C (pc' := 36) rfl dX9_move_33 wf_X9_15 h (fun v7 h => ?_)
      refine gj_iload_n C (pc' := 37) (i := 3) rfl dX9_move_36 rfl rfl ?_
      refine gj_rald C (pc' := 38) (t := 3) rfl dX9_move_37 rfl h (fun v8 h => ?_)
      refine gj_astore C (pc' := 40) (i := 7) (lv' := [_, _, _, _, _, _, _, _]) rfl dX9_move_38 (by decide) rfl rfl ?_
      refine gj_aload C (pc' := 42) (i := 6) rfl dX9_move_40 rfl ?_
      refine gj_callVi C (pc' := 45) rfl dX9_move_42 wm_X9_226 uX5_isMissing h (kX5_isMissing _ _) (by omega) rfl rfl (Nat.le_of_ble_eq_true rfl) (fun v9 w10 h => ?_)
      refine gj_if_ne C (pc' := 48) (tgt := 56) rfl dX9_move_45 rfl h (fun h => ?_) (fun h => ?_)
      · refine gj_aload C (pc' := 50) (i := 7) rfl dX9_move_48 rfl ?_
        refine gj_callVi C (pc' := 53) rfl dX9_move_50 wm_X9_226 uX5_isMissing h (kX5_isMissing _ _) (by omega) rfl rfl (Nat.le_of_ble_eq_true rfl) (fun v11 w12 h => ?_)
        refine gj_if_eq C (pc' := 56) (tgt := 62) rfl dX9_move_53 rfl h (fun h => ?_) (fun h => ?_)
        · refine gj_aload C (pc' := 64) (i := 6) rfl dX9_move_62 rfl ?_
          refine gj_getI C (pc' := 67) rfl dX9_move_64 wf_X9_280 h (fun v13 h => ?_)
          refine gj_aload C (pc' := 69) (i := 7) rfl dX9_move_67 rfl ?_
          refine gj_getI C (pc' := 72) rfl dX9_move_69 wf_X9_280 h (fun v14 h => ?_)
          refine gj_icmp_eq C (pc' := 75) (tgt := 81) rfl dX9_move_72 rfl h (fun h => ?_) (fun h => ?_)
          · refine gj_aload C (pc' := 83) (i := 6) rfl dX9_move_81 rfl ?_
            refine gj_iload_n C (pc' := 84) (i := 2) rfl dX9_move_83 rfl rfl ?_
            refine gj_iload C (pc' := 86) (i := 5) rfl dX9_move_84 rfl ?_
            refine gj_callVi C (pc' := 89) rfl dX9_move_86 wm_X9_283 uX5_holds h (kX5_holds _ _ _ _) (by omega) rfl rfl (Nat.le_of_ble_eq_true rfl) (fun v15 w16 h => ?_)
            refine gj_if_eq C (pc' := 92) (tgt := 104) rfl dX9_move_89 rfl h (fun h => ?_) (fun h => ?_)
            · refine gj_drop (lv' := [some _, none, none, none, none, none, none, none]) (And.intro rfl True.intro) ?_
              exact kX9_move_104 C h
            · refine gj_aload C (pc' := 94) (i := 7) rfl dX9_move_92 rfl ?_
              refine gj_iload C (pc' := 96) (i := 4) rfl dX9_move_94 rfl ?_
              refine gj_iload C (pc' := 98) (i := 5) rfl dX9_move_96 rfl ?_
              refine gj_callVi C (pc' := 101) rfl dX9_move_98 wm_X9_283 uX5_holds h (kX5_holds _ _ _ _) (by omega) rfl rfl (Nat.le_of_ble_eq_true rfl) (fun v17 w18 h => ?_)
              refine gj_if_ne C (pc' := 104) (tgt := 110) rfl dX9_move_101 rfl h (fun h => ?_) (fun h => ?_)
              · refine gj_drop (lv' := [some _, none, none, none, none, none, none, none]) (And.intro rfl True.intro) ?_
                exact kX9_move_104 C h
              · refine gj_aload C (pc' := 112) (i := 6) rfl dX9_move_110 rfl ?_
                refine gj_getR C (pc' := 115) rfl dX9_move_112 wf_X9_231 h (fun v19 h => ?_)
                refine gj_iload_n C (pc' := 116) (i := 2) rfl dX9_move_115 rfl rfl ?_
                refine gj_aload C (pc' := 118) (i := 7) rfl dX9_move_116 rfl ?_
                refine gj_getR C (pc' := 121) rfl dX9_move_118 wf_X9_231 h (fun v20 h => ?_)
                refine gj_iload C (pc' := 123) (i := 4) rfl dX9_move_121 rfl ?_
                refine gj_iload C (pc' := 125) (i := 5) rfl dX9_move_123 rfl ?_
                refine gj_cpy C (pc' := 128) (gj_R1 (by omega)) rfl dX9_move_125 wm_X9_286 w_cpyN w_cpyS w_cpyI (Nat.le_of_ble_eq_true rfl) h (fun w21 h => ?_)
                refine gj_iload C (pc' := 130) (i := 5) rfl dX9_move_128 rfl ?_
                exact gj_iret C dX9_move_130 h
          · refine gj_aload_n C (pc' := 76) (i := 0) rfl dX9_move_75 rfl rfl ?_
            refine gj_iconst C (pc' := 77) (v := 5) rfl dX9_move_76 (by decide) ?_
            refine gj_callVi C (pc' := 80) rfl dX9_move_77 wm_X9_66 uX9_fail h (kX9_fail _ _ _) (by omega) rfl rfl (Nat.le_of_ble_eq_true rfl) (fun v22 w23 h => ?_)
            exact gj_iret C dX9_move_80 h
        · refine gj_drop (lv' := [some _, none, none, none, none, none, none, none]) (And.intro rfl True.intro) ?_
          exact kX9_move_56 C h
      · refine gj_drop (lv' := [some _, none, none, none, none, none, none, none]) (And.intro rfl True.intro) ?_
        exact kX9_move_56 C h
set_option maxHeartbeats 4000000 in
set_option maxRecDepth 100000 in
theorem kX9_debts_37 {p : Program} {l : Launch} {e : Env} {s : State} {m : MethodId} {args : Array Value} {below : List Frame} {meth : Method} {c : Code} {D : va_G} {ad : Nat → Nat} {tc : Nat → ClassId} {A : Nat → Prop} (C : gj_C p s m args meth c D ad tc A cX9_debts 4 (some .int) RX9) {r : Int32} {w1 : ab_W} : ∀ {n : Nat} {x0 : Nat} {x2 : Nat} {x3 : Int32} {w : ab_W}, sX9_debts_37 n x0 x2 x3 w = some (r, w1) → gj_G p l e (gj_R 2) s m args below meth c D ad tc A 4 (gj_Qi D ad tc A below args s r w1) 37 [some (.ref x0), none, some (.ref x2), some (.int x3)] [] w := by
  intro n
  induction n with
  | zero =>
    intros
    rename_i h
    cases h
  | succ n ih =>
    intro x0 x2 x3 w h
    rw [sX9_debts_37] at h
    refine gj_iload_n C (pc' := 38) (i := 3) rfl dX9_debts_37 rfl rfl ?_
    refine gj_aload_n C (pc' := 39) (i := 2) rfl dX9_debts_38 rfl rfl ?_
    refine gj_getI C (pc' := 42) rfl dX9_debts_39 wf_X9_230 h (fun v1 h => ?_)
    refine gj_icmp_ge C (pc' := 45) (tgt := 96) rfl dX9_debts_42 rfl h (fun h => ?_) (fun h => ?_)
    · refine gj_iload_n C (pc' := 46) (i := 3) rfl dX9_debts_45 rfl rfl ?_
      refine gj_aload_n C (pc' := 47) (i := 0) rfl dX9_debts_46 rfl rfl ?_
      refine gj_getR C (pc' := 50) rfl dX9_debts_47 wf_X9_30 h (fun v2 h => ?_)
      refine gj_getI C (pc' := 53) rfl dX9_debts_50 wf_X9_70 h (fun v3 h => ?_)
      refine gj_icmp_ge C (pc' := 56) (tgt := 96) rfl dX9_debts_53 rfl h (fun h => ?_) (fun h => ?_)
      · refine gj_aload_n C (pc' := 57) (i := 2) rfl dX9_debts_56 rfl rfl ?_
        refine gj_getR C (pc' := 60) rfl dX9_debts_57 wf_X9_231 h (fun v4 h => ?_)
        refine gj_iload_n C (pc' := 61) (i := 3) rfl dX9_debts_60 rfl rfl ?_
        refine gj_iald C (pc' := 62) rfl dX9_debts_61 h (fun v5 h => ?_)
        refine gj_iconst C (pc' := 63) (v := 0) rfl dX9_debts_62 (by decide) ?_
        refine gj_sipush C (pc' := 66) (v := 9999) rfl dX9_debts_63 (by decide) ?_
        refine gj_callSi C (pc' := 69) rfl dX9_debts_66 wm_X9_62 uX9_within h (kX9_within _ _ _ _) (by omega) rfl rfl (Nat.le_of_ble_eq_true rfl) (fun v6 w7 h => ?_)
        refine gj_if_eq C (pc' := 72) (tgt := 96) rfl dX9_debts_69 rfl h (fun h => ?_) (fun h => ?_)
        · refine gj_iload_n C (pc' := 97) (i := 3) rfl dX9_debts_96 rfl rfl ?_
          exact gj_iret C dX9_debts_97 h
        · refine gj_aload_n C (pc' := 73) (i := 0) rfl dX9_debts_72 rfl rfl ?_
          refine gj_getR C (pc' := 76) rfl dX9_debts_73 wf_X9_30 h (fun v8 h => ?_)
          refine gj_getR C (pc' := 79) rfl dX9_debts_76 wf_X9_81 h (fun v9 h => ?_)
          refine gj_iload_n C (pc' := 80) (i := 3) rfl dX9_debts_79 rfl rfl ?_
          refine gj_rald C (pc' := 81) (t := 1) rfl dX9_debts_80 rfl h (fun v10 h => ?_)
          refine gj_aload_n C (pc' := 82) (i := 2) rfl dX9_debts_81 rfl rfl ?_
          refine gj_getR C (pc' := 85) rfl dX9_debts_82 wf_X9_231 h (fun v11 h => ?_)
          refine gj_iload_n C (pc' := 86) (i := 3) rfl dX9_debts_85 rfl rfl ?_
          refine gj_iald C (pc' := 87) rfl dX9_debts_86 h (fun v12 h => ?_)
          refine gj_putI C (pc' := 90) (ty := .int) rfl dX9_debts_87 wf_X9_93 wp_X3_2 rfl h (fun w13 h => ?_)
          refine gj_iinc C (pc' := 93) (i := 3) (v := _ + 1) (lv' := [_, _, _, _]) rfl dX9_debts_90 rfl rfl (by decide) rfl rfl ?_
          refine gj_goto C (tgt := 37) dX9_debts_93 rfl ?_
          refine gj_drop (lv' := [some _, none, some _, some _]) (And.intro rfl (And.intro rfl (And.intro rfl True.intro))) ?_
          exact ih h
      · refine gj_iload_n C (pc' := 97) (i := 3) rfl dX9_debts_96 rfl rfl ?_
        exact gj_iret C dX9_debts_97 h
    · refine gj_iload_n C (pc' := 97) (i := 3) rfl dX9_debts_96 rfl rfl ?_
      exact gj_iret C dX9_debts_97 h
set_option maxHeartbeats 4000000 in
set_option maxRecDepth 100000 in
theorem kX9_debts : ∀ (x0 : Nat) (x1 : Int32) (w : ab_W) (r : Int32) (w1 : ab_W), sX9_debts x0 x1 w = some (r, w1) → gj_Mi yX9_debts cX9_debts 4 (some .int) 2 [.ref x0, .int x1] w r w1 ∧ ab_is w 9 x0 = true := by
  intro x0 x1 w r w1 h
  unfold sX9_debts at h
  obtain ⟨hi, h⟩ := ab_ite h
  refine ⟨?_, hi⟩
  refine gj_Mi_of RX9 [some (.ref x0), some (.int x1), none, none] (by decide +kernel) rfl (Nat.le_of_ble_eq_true rfl) rfl (fun p l e s m args below meth c D ad tc A C => ?_)
  refine gj_iload_n C (pc' := 1) (i := 1) rfl dX9_debts_0 rfl rfl ?_
  refine gj_iconst C (pc' := 2) (v := 0) rfl dX9_debts_1 (by decide) ?_
  refine gj_iconst C (pc' := 3) (v := 3) rfl dX9_debts_2 (by decide) ?_
  refine gj_callSi C (pc' := 6) rfl dX9_debts_3 wm_X9_62 uX9_within h (kX9_within _ _ _ _) (by omega) rfl rfl (Nat.le_of_ble_eq_true rfl) (fun v1 w2 h => ?_)
  refine gj_if_ne C (pc' := 9) (tgt := 15) rfl dX9_debts_6 rfl h (fun h => ?_) (fun h => ?_)
  · refine gj_aload_n C (pc' := 10) (i := 0) rfl dX9_debts_9 rfl rfl ?_
    refine gj_iconst C (pc' := 11) (v := 1) rfl dX9_debts_10 (by decide) ?_
    refine gj_callVi C (pc' := 14) rfl dX9_debts_11 wm_X9_66 uX9_fail h (kX9_fail _ _ _) (by omega) rfl rfl (Nat.le_of_ble_eq_true rfl) (fun v3 w4 h => ?_)
    exact gj_iret C dX9_debts_14 h
  · refine gj_aload_n C (pc' := 16) (i := 0) rfl dX9_debts_15 rfl rfl ?_
    refine gj_getR C (pc' := 19) rfl dX9_debts_16 wf_X9_15 h (fun v5 h => ?_)
    refine gj_iload_n C (pc' := 20) (i := 1) rfl dX9_debts_19 rfl rfl ?_
    refine gj_rald C (pc' := 21) (t := 3) rfl dX9_debts_20 rfl h (fun v6 h => ?_)
    refine gj_astore_n C (pc' := 22) (i := 2) (lv' := [_, _, _, _]) rfl dX9_debts_21 rfl (by decide) rfl rfl ?_
    refine gj_aload_n C (pc' := 23) (i := 2) rfl dX9_debts_22 rfl rfl ?_
    refine gj_callVi C (pc' := 26) rfl dX9_debts_23 wm_X9_226 uX5_isMissing h (kX5_isMissing _ _) (by omega) rfl rfl (Nat.le_of_ble_eq_true rfl) (fun v7 w8 h => ?_)
    refine gj_if_eq C (pc' := 29) (tgt := 35) rfl dX9_debts_26 rfl h (fun h => ?_) (fun h => ?_)
    · refine gj_iconst C (pc' := 36) (v := 0) rfl dX9_debts_35 (by decide) ?_
      refine gj_istore_n C (pc' := 37) (i := 3) (lv' := [_, _, _, _]) rfl dX9_debts_36 rfl (by decide) rfl rfl ?_
      refine gj_drop (lv' := [some _, none, some _, some _]) (And.intro rfl (And.intro rfl (And.intro rfl True.intro))) ?_
      exact kX9_debts_37 C h
    · refine gj_aload_n C (pc' := 30) (i := 0) rfl dX9_debts_29 rfl rfl ?_
      refine gj_iconst C (pc' := 31) (v := 2) rfl dX9_debts_30 (by decide) ?_
      refine gj_callVi C (pc' := 34) rfl dX9_debts_31 wm_X9_66 uX9_fail h (kX9_fail _ _ _) (by omega) rfl rfl (Nat.le_of_ble_eq_true rfl) (fun v9 w10 h => ?_)
      exact gj_iret C dX9_debts_34 h
set_option maxHeartbeats 4000000 in
set_option maxRecDepth 100000 in
theorem kX9_judge_53 {p : Program} {l : Launch} {e : Env} {s : State} {m : MethodId} {args : Array Value} {below : List Frame} {meth : Method} {c : Code} {D : va_G} {ad : Nat → Nat} {tc : Nat → ClassId} {A : Nat → Prop} (C : gj_C p s m args meth c D ad tc A cX9_judge 5 (some .int) RX9) {r : Int32} {w1 : ab_W} : ∀ {n : Nat} {x0 : Nat} {x2 : Nat} {x3 : Int32} {x4 : Int32} {w : ab_W}, sX9_judge_53 n x0 x2 x3 x4 w = some (r, w1) → gj_G p l e (gj_R 2) s m args below meth c D ad tc A 5 (gj_Qi D ad tc A below args s r w1) 53 [some (.ref x0), none, some (.ref x2), some (.int x3), some (.int x4)] [] w := by
  intro n
  induction n with
  | zero =>
    intros
    rename_i h
    cases h
  | succ n ih =>
    intro x0 x2 x3 x4 w h
    rw [sX9_judge_53] at h
    refine gj_iload C (pc' := 55) (i := 4) rfl dX9_judge_53 rfl ?_
    refine gj_iload_n C (pc' := 56) (i := 3) rfl dX9_judge_55 rfl rfl ?_
    refine gj_icmp_ge C (pc' := 59) (tgt := 91) rfl dX9_judge_56 rfl h (fun h => ?_) (fun h => ?_)
    · refine gj_aload_n C (pc' := 60) (i := 2) rfl dX9_judge_59 rfl rfl ?_
      refine gj_getR C (pc' := 63) rfl dX9_judge_60 wf_X9_231 h (fun v1 h => ?_)
      refine gj_iload C (pc' := 65) (i := 4) rfl dX9_judge_63 rfl ?_
      refine gj_iald C (pc' := 66) rfl dX9_judge_65 h (fun v2 h => ?_)
      refine gj_aload_n C (pc' := 67) (i := 0) rfl dX9_judge_66 rfl rfl ?_
      refine gj_getR C (pc' := 70) rfl dX9_judge_67 wf_X9_30 h (fun v3 h => ?_)
      refine gj_getR C (pc' := 73) rfl dX9_judge_70 wf_X9_81 h (fun v4 h => ?_)
      refine gj_iload C (pc' := 75) (i := 4) rfl dX9_judge_73 rfl ?_
      refine gj_rald C (pc' := 76) (t := 1) rfl dX9_judge_75 rfl h (fun v5 h => ?_)
      refine gj_getI C (pc' := 79) rfl dX9_judge_76 wf_X9_96 h (fun v6 h => ?_)
      refine gj_icmp_eq C (pc' := 82) (tgt := 85) rfl dX9_judge_79 rfl h (fun h => ?_) (fun h => ?_)
      · refine gj_iinc C (pc' := 88) (i := 4) (v := _ + 1) (lv' := [_, _, _, _, _]) rfl dX9_judge_85 rfl rfl (by decide) rfl rfl ?_
        refine gj_goto C (tgt := 53) dX9_judge_88 rfl ?_
        refine gj_drop (lv' := [some _, none, some _, some _, some _]) (And.intro rfl (And.intro rfl (And.intro rfl (And.intro rfl True.intro)))) ?_
        exact ih h
      · refine gj_iload C (pc' := 84) (i := 4) rfl dX9_judge_82 rfl ?_
        exact gj_iret C dX9_judge_84 h
    · refine gj_aload_n C (pc' := 92) (i := 2) rfl dX9_judge_91 rfl rfl ?_
      refine gj_getI C (pc' := 95) rfl dX9_judge_92 wf_X9_230 h (fun v7 h => ?_)
      refine gj_aload_n C (pc' := 96) (i := 0) rfl dX9_judge_95 rfl rfl ?_
      refine gj_getR C (pc' := 99) rfl dX9_judge_96 wf_X9_30 h (fun v8 h => ?_)
      refine gj_getI C (pc' := 102) rfl dX9_judge_99 wf_X9_70 h (fun v9 h => ?_)
      refine gj_icmp_ne C (pc' := 105) (tgt := 109) rfl dX9_judge_102 rfl h (fun h => ?_) (fun h => ?_)
      · refine gj_iconst C (pc' := 106) (v := (-1)) rfl dX9_judge_105 (by decide) ?_
        refine gj_goto C (tgt := 110) dX9_judge_106 rfl ?_
        exact gj_iret C dX9_judge_110 h
      · refine gj_iload_n C (pc' := 110) (i := 3) rfl dX9_judge_109 rfl rfl ?_
        exact gj_iret C dX9_judge_110 h
set_option maxHeartbeats 4000000 in
set_option maxRecDepth 100000 in
theorem kX9_judge : ∀ (x0 : Nat) (x1 : Int32) (w : ab_W) (r : Int32) (w1 : ab_W), sX9_judge x0 x1 w = some (r, w1) → gj_Mi yX9_judge cX9_judge 5 (some .int) 2 [.ref x0, .int x1] w r w1 ∧ ab_is w 9 x0 = true := by
  intro x0 x1 w r w1 h
  unfold sX9_judge at h
  obtain ⟨hi, h⟩ := ab_ite h
  refine ⟨?_, hi⟩
  refine gj_Mi_of RX9 [some (.ref x0), some (.int x1), none, none, none] (by decide +kernel) rfl (Nat.le_of_ble_eq_true rfl) rfl (fun p l e s m args below meth c D ad tc A C => ?_)
  refine gj_iload_n C (pc' := 1) (i := 1) rfl dX9_judge_0 rfl rfl ?_
  refine gj_iconst C (pc' := 2) (v := 0) rfl dX9_judge_1 (by decide) ?_
  refine gj_iconst C (pc' := 3) (v := 3) rfl dX9_judge_2 (by decide) ?_
  refine gj_callSi C (pc' := 6) rfl dX9_judge_3 wm_X9_62 uX9_within h (kX9_within _ _ _ _) (by omega) rfl rfl (Nat.le_of_ble_eq_true rfl) (fun v1 w2 h => ?_)
  refine gj_if_ne C (pc' := 9) (tgt := 15) rfl dX9_judge_6 rfl h (fun h => ?_) (fun h => ?_)
  · refine gj_aload_n C (pc' := 10) (i := 0) rfl dX9_judge_9 rfl rfl ?_
    refine gj_iconst C (pc' := 11) (v := 1) rfl dX9_judge_10 (by decide) ?_
    refine gj_callVi C (pc' := 14) rfl dX9_judge_11 wm_X9_66 uX9_fail h (kX9_fail _ _ _) (by omega) rfl rfl (Nat.le_of_ble_eq_true rfl) (fun v3 w4 h => ?_)
    exact gj_iret C dX9_judge_14 h
  · refine gj_aload_n C (pc' := 16) (i := 0) rfl dX9_judge_15 rfl rfl ?_
    refine gj_getR C (pc' := 19) rfl dX9_judge_16 wf_X9_15 h (fun v5 h => ?_)
    refine gj_iload_n C (pc' := 20) (i := 1) rfl dX9_judge_19 rfl rfl ?_
    refine gj_rald C (pc' := 21) (t := 3) rfl dX9_judge_20 rfl h (fun v6 h => ?_)
    refine gj_astore_n C (pc' := 22) (i := 2) (lv' := [_, _, _, _, _]) rfl dX9_judge_21 rfl (by decide) rfl rfl ?_
    refine gj_aload_n C (pc' := 23) (i := 2) rfl dX9_judge_22 rfl rfl ?_
    refine gj_callVi C (pc' := 26) rfl dX9_judge_23 wm_X9_226 uX5_isMissing h (kX5_isMissing _ _) (by omega) rfl rfl (Nat.le_of_ble_eq_true rfl) (fun v7 w8 h => ?_)
    refine gj_if_eq C (pc' := 29) (tgt := 35) rfl dX9_judge_26 rfl h (fun h => ?_) (fun h => ?_)
    · refine gj_aload_n C (pc' := 36) (i := 2) rfl dX9_judge_35 rfl rfl ?_
      refine gj_getI C (pc' := 39) rfl dX9_judge_36 wf_X9_230 h (fun v9 h => ?_)
      refine gj_aload_n C (pc' := 40) (i := 0) rfl dX9_judge_39 rfl rfl ?_
      refine gj_getR C (pc' := 43) rfl dX9_judge_40 wf_X9_30 h (fun v10 h => ?_)
      refine gj_getI C (pc' := 46) rfl dX9_judge_43 wf_X9_70 h (fun v11 h => ?_)
      refine gj_mmin C (pc' := 49) (gj_R1 (by omega)) rfl dX9_judge_46 wm_X9_292 w_mmin (Nat.le_of_ble_eq_true rfl) ?_
      refine gj_istore_n C (pc' := 50) (i := 3) (lv' := [_, _, _, _, _]) rfl dX9_judge_49 rfl (by decide) rfl rfl ?_
      refine gj_iconst C (pc' := 51) (v := 0) rfl dX9_judge_50 (by decide) ?_
      refine gj_istore C (pc' := 53) (i := 4) (lv' := [_, _, _, _, _]) rfl dX9_judge_51 (by decide) rfl rfl ?_
      refine gj_drop (lv' := [some _, none, some _, some _, some _]) (And.intro rfl (And.intro rfl (And.intro rfl (And.intro rfl True.intro)))) ?_
      exact kX9_judge_53 C h
    · refine gj_aload_n C (pc' := 30) (i := 0) rfl dX9_judge_29 rfl rfl ?_
      refine gj_iconst C (pc' := 31) (v := 2) rfl dX9_judge_30 (by decide) ?_
      refine gj_callVi C (pc' := 34) rfl dX9_judge_31 wm_X9_66 uX9_fail h (kX9_fail _ _ _) (by omega) rfl rfl (Nat.le_of_ble_eq_true rfl) (fun v12 w13 h => ?_)
      exact gj_iret C dX9_judge_34 h
set_option maxHeartbeats 4000000 in
set_option maxRecDepth 100000 in
theorem kX3_copyFrom : ∀ (x0 : Nat) (x1 : Nat) (w : ab_W) (w1 : ab_W), sX3_copyFrom x0 x1 w = some w1 → gj_Mv yX3_copyFrom cX3_copyFrom 2 none 0 [.ref x0, .ref x1] w w1 ∧ ab_is w 3 x0 = true := by
  intro x0 x1 w w1 h
  unfold sX3_copyFrom at h
  obtain ⟨hi, h⟩ := ab_ite h
  refine ⟨?_, hi⟩
  refine gj_Mv_of RX3 [some (.ref x0), some (.ref x1)] (by decide +kernel) rfl (Nat.le_of_ble_eq_true rfl) rfl (fun p l e s m args below meth c D ad tc A C => ?_)
  refine gj_aload_n C (pc' := 1) (i := 0) rfl dX3_copyFrom_0 rfl rfl ?_
  refine gj_aload_n C (pc' := 2) (i := 1) rfl dX3_copyFrom_1 rfl rfl ?_
  refine gj_getI C (pc' := 5) rfl dX3_copyFrom_2 wf_X3_15 h (fun v1 h => ?_)
  refine gj_putI C (pc' := 8) (ty := .int) rfl dX3_copyFrom_5 wf_X3_15 wp_X3_0 rfl h (fun w2 h => ?_)
  refine gj_aload_n C (pc' := 9) (i := 0) rfl dX3_copyFrom_8 rfl rfl ?_
  refine gj_aload_n C (pc' := 10) (i := 1) rfl dX3_copyFrom_9 rfl rfl ?_
  refine gj_getI C (pc' := 13) rfl dX3_copyFrom_10 wf_X3_19 h (fun v3 h => ?_)
  refine gj_putI C (pc' := 16) (ty := .int) rfl dX3_copyFrom_13 wf_X3_19 wp_X3_1 rfl h (fun w4 h => ?_)
  refine gj_aload_n C (pc' := 17) (i := 0) rfl dX3_copyFrom_16 rfl rfl ?_
  refine gj_aload_n C (pc' := 18) (i := 1) rfl dX3_copyFrom_17 rfl rfl ?_
  refine gj_getI C (pc' := 21) rfl dX3_copyFrom_18 wf_X3_22 h (fun v5 h => ?_)
  refine gj_putI C (pc' := 24) (ty := .int) rfl dX3_copyFrom_21 wf_X3_22 wp_X3_2 rfl h (fun w6 h => ?_)
  refine gj_aload_n C (pc' := 25) (i := 0) rfl dX3_copyFrom_24 rfl rfl ?_
  refine gj_aload_n C (pc' := 26) (i := 1) rfl dX3_copyFrom_25 rfl rfl ?_
  refine gj_getI C (pc' := 29) rfl dX3_copyFrom_26 wf_X3_25 h (fun v7 h => ?_)
  refine gj_putI C (pc' := 32) (ty := .int) rfl dX3_copyFrom_29 wf_X3_25 wp_X3_3 rfl h (fun w8 h => ?_)
  refine gj_aload_n C (pc' := 33) (i := 0) rfl dX3_copyFrom_32 rfl rfl ?_
  refine gj_aload_n C (pc' := 34) (i := 1) rfl dX3_copyFrom_33 rfl rfl ?_
  refine gj_getI C (pc' := 37) rfl dX3_copyFrom_34 wf_X3_28 h (fun v9 h => ?_)
  refine gj_putZ C (pc' := 40) (ty := .int) rfl dX3_copyFrom_37 wf_X3_28 wp_X3_4 rfl h (fun w10 h => ?_)
  refine gj_aload_n C (pc' := 41) (i := 0) rfl dX3_copyFrom_40 rfl rfl ?_
  refine gj_aload_n C (pc' := 42) (i := 1) rfl dX3_copyFrom_41 rfl rfl ?_
  refine gj_getI C (pc' := 45) rfl dX3_copyFrom_42 wf_X3_32 h (fun v11 h => ?_)
  refine gj_putI C (pc' := 48) (ty := .int) rfl dX3_copyFrom_45 wf_X3_32 wp_X3_5 rfl h (fun w12 h => ?_)
  exact gj_vret C dX3_copyFrom_48 h
set_option maxHeartbeats 4000000 in
set_option maxRecDepth 100000 in
theorem kX0_copyFrom_31 {p : Program} {l : Launch} {e : Env} {s : State} {m : MethodId} {args : Array Value} {below : List Frame} {meth : Method} {c : Code} {D : va_G} {ad : Nat → Nat} {tc : Nat → ClassId} {A : Nat → Prop} (C : gj_C p s m args meth c D ad tc A cX0_copyFrom 3 none RX0) {w1 : ab_W} : ∀ {n : Nat} {x0 : Nat} {x1 : Nat} {x2 : Int32} {w : ab_W}, sX0_copyFrom_31 n x0 x1 x2 w = some w1 → gj_G p l e (gj_R 2) s m args below meth c D ad tc A 3 (gj_Qv D ad tc A below args s w1) 31 [some (.ref x0), some (.ref x1), some (.int x2)] [] w := by
  intro n
  induction n with
  | zero =>
    intros
    rename_i h
    cases h
  | succ n ih =>
    intro x0 x1 x2 w h
    rw [sX0_copyFrom_31] at h
    refine gj_iload_n C (pc' := 32) (i := 2) rfl dX0_copyFrom_31 rfl rfl ?_
    refine gj_iconst C (pc' := 33) (v := 2) rfl dX0_copyFrom_32 (by decide) ?_
    refine gj_icmp_ge C (pc' := 36) (tgt := 57) rfl dX0_copyFrom_33 rfl h (fun h => ?_) (fun h => ?_)
    · refine gj_aload_n C (pc' := 37) (i := 0) rfl dX0_copyFrom_36 rfl rfl ?_
      refine gj_getR C (pc' := 40) rfl dX0_copyFrom_37 wf_X0_23 h (fun v1 h => ?_)
      refine gj_iload_n C (pc' := 41) (i := 2) rfl dX0_copyFrom_40 rfl rfl ?_
      refine gj_rald C (pc' := 42) (t := 2) rfl dX0_copyFrom_41 rfl h (fun v2 h => ?_)
      refine gj_aload_n C (pc' := 43) (i := 1) rfl dX0_copyFrom_42 rfl rfl ?_
      refine gj_getR C (pc' := 46) rfl dX0_copyFrom_43 wf_X0_23 h (fun v3 h => ?_)
      refine gj_iload_n C (pc' := 47) (i := 2) rfl dX0_copyFrom_46 rfl rfl ?_
      refine gj_rald C (pc' := 48) (t := 2) rfl dX0_copyFrom_47 rfl h (fun v4 h => ?_)
      refine gj_callVv C (pc' := 51) rfl dX0_copyFrom_48 wm_X0_55 uX2_copyFrom h (kX2_copyFrom _ _ _) (by omega) rfl rfl (Nat.le_of_ble_eq_true rfl) (fun w5 h => ?_)
      refine gj_iinc C (pc' := 54) (i := 2) (v := _ + 1) (lv' := [_, _, _]) rfl dX0_copyFrom_51 rfl rfl (by decide) rfl rfl ?_
      refine gj_goto C (tgt := 31) dX0_copyFrom_54 rfl ?_
      refine gj_drop (lv' := [some _, some _, some _]) (And.intro rfl (And.intro rfl (And.intro rfl True.intro))) ?_
      exact ih h
    · refine gj_aload_n C (pc' := 58) (i := 1) rfl dX0_copyFrom_57 rfl rfl ?_
      refine gj_getR C (pc' := 61) rfl dX0_copyFrom_58 wf_X0_17 h (fun v6 h => ?_)
      refine gj_iconst C (pc' := 62) (v := 0) rfl dX0_copyFrom_61 (by decide) ?_
      refine gj_aload_n C (pc' := 63) (i := 0) rfl dX0_copyFrom_62 rfl rfl ?_
      refine gj_getR C (pc' := 66) rfl dX0_copyFrom_63 wf_X0_17 h (fun v7 h => ?_)
      refine gj_iconst C (pc' := 67) (v := 0) rfl dX0_copyFrom_66 (by decide) ?_
      refine gj_bipush C (pc' := 69) (v := 50) rfl dX0_copyFrom_67 (by decide) ?_
      refine gj_cpy C (pc' := 72) (gj_R1 (by omega)) rfl dX0_copyFrom_69 wm_X0_58 w_cpyN w_cpyS w_cpyI (Nat.le_of_ble_eq_true rfl) h (fun w8 h => ?_)
      refine gj_aload_n C (pc' := 73) (i := 1) rfl dX0_copyFrom_72 rfl rfl ?_
      refine gj_getR C (pc' := 76) rfl dX0_copyFrom_73 wf_X0_27 h (fun v9 h => ?_)
      refine gj_iconst C (pc' := 77) (v := 0) rfl dX0_copyFrom_76 (by decide) ?_
      refine gj_aload_n C (pc' := 78) (i := 0) rfl dX0_copyFrom_77 rfl rfl ?_
      refine gj_getR C (pc' := 81) rfl dX0_copyFrom_78 wf_X0_27 h (fun v10 h => ?_)
      refine gj_iconst C (pc' := 82) (v := 0) rfl dX0_copyFrom_81 (by decide) ?_
      refine gj_bipush C (pc' := 84) (v := 20) rfl dX0_copyFrom_82 (by decide) ?_
      refine gj_cpy C (pc' := 87) (gj_R1 (by omega)) rfl dX0_copyFrom_84 wm_X0_58 w_cpyN w_cpyS w_cpyI (Nat.le_of_ble_eq_true rfl) h (fun w11 h => ?_)
      refine gj_aload_n C (pc' := 88) (i := 0) rfl dX0_copyFrom_87 rfl rfl ?_
      refine gj_aload_n C (pc' := 89) (i := 1) rfl dX0_copyFrom_88 rfl rfl ?_
      refine gj_getI C (pc' := 92) rfl dX0_copyFrom_89 wf_X0_32 h (fun v12 h => ?_)
      refine gj_putI C (pc' := 95) (ty := .int) rfl dX0_copyFrom_92 wf_X0_32 wp_X0_4 rfl h (fun w13 h => ?_)
      refine gj_aload_n C (pc' := 96) (i := 0) rfl dX0_copyFrom_95 rfl rfl ?_
      refine gj_aload_n C (pc' := 97) (i := 1) rfl dX0_copyFrom_96 rfl rfl ?_
      refine gj_getI C (pc' := 100) rfl dX0_copyFrom_97 wf_X0_36 h (fun v14 h => ?_)
      refine gj_putI C (pc' := 103) (ty := .int) rfl dX0_copyFrom_100 wf_X0_36 wp_X0_5 rfl h (fun w15 h => ?_)
      refine gj_aload_n C (pc' := 104) (i := 0) rfl dX0_copyFrom_103 rfl rfl ?_
      refine gj_aload_n C (pc' := 105) (i := 1) rfl dX0_copyFrom_104 rfl rfl ?_
      refine gj_getI C (pc' := 108) rfl dX0_copyFrom_105 wf_X0_39 h (fun v16 h => ?_)
      refine gj_putI C (pc' := 111) (ty := .int) rfl dX0_copyFrom_108 wf_X0_39 wp_X0_6 rfl h (fun w17 h => ?_)
      refine gj_aload_n C (pc' := 112) (i := 0) rfl dX0_copyFrom_111 rfl rfl ?_
      refine gj_aload_n C (pc' := 113) (i := 1) rfl dX0_copyFrom_112 rfl rfl ?_
      refine gj_getI C (pc' := 116) rfl dX0_copyFrom_113 wf_X0_42 h (fun v18 h => ?_)
      refine gj_putI C (pc' := 119) (ty := .int) rfl dX0_copyFrom_116 wf_X0_42 wp_X0_7 rfl h (fun w19 h => ?_)
      refine gj_aload_n C (pc' := 120) (i := 0) rfl dX0_copyFrom_119 rfl rfl ?_
      refine gj_aload_n C (pc' := 121) (i := 1) rfl dX0_copyFrom_120 rfl rfl ?_
      refine gj_getI C (pc' := 124) rfl dX0_copyFrom_121 wf_X0_45 h (fun v20 h => ?_)
      refine gj_putI C (pc' := 127) (ty := .int) rfl dX0_copyFrom_124 wf_X0_45 wp_X0_8 rfl h (fun w21 h => ?_)
      refine gj_aload_n C (pc' := 128) (i := 0) rfl dX0_copyFrom_127 rfl rfl ?_
      refine gj_aload_n C (pc' := 129) (i := 1) rfl dX0_copyFrom_128 rfl rfl ?_
      refine gj_getI C (pc' := 132) rfl dX0_copyFrom_129 wf_X0_48 h (fun v22 h => ?_)
      refine gj_putI C (pc' := 135) (ty := .int) rfl dX0_copyFrom_132 wf_X0_48 wp_X0_9 rfl h (fun w23 h => ?_)
      exact gj_vret C dX0_copyFrom_135 h
set_option maxHeartbeats 4000000 in
set_option maxRecDepth 100000 in
theorem kX0_copyFrom_2 {p : Program} {l : Launch} {e : Env} {s : State} {m : MethodId} {args : Array Value} {below : List Frame} {meth : Method} {c : Code} {D : va_G} {ad : Nat → Nat} {tc : Nat → ClassId} {A : Nat → Prop} (C : gj_C p s m args meth c D ad tc A cX0_copyFrom 3 none RX0) {w1 : ab_W} : ∀ {n : Nat} {x0 : Nat} {x1 : Nat} {x2 : Int32} {w : ab_W}, sX0_copyFrom_2 n x0 x1 x2 w = some w1 → gj_G p l e (gj_R 2) s m args below meth c D ad tc A 3 (gj_Qv D ad tc A below args s w1) 2 [some (.ref x0), some (.ref x1), some (.int x2)] [] w := by
  intro n
  induction n with
  | zero =>
    intros
    rename_i h
    cases h
  | succ n ih =>
    intro x0 x1 x2 w h
    rw [sX0_copyFrom_2] at h
    refine gj_iload_n C (pc' := 3) (i := 2) rfl dX0_copyFrom_2 rfl rfl ?_
    refine gj_bipush C (pc' := 5) (v := 8) rfl dX0_copyFrom_3 (by decide) ?_
    refine gj_icmp_ge C (pc' := 8) (tgt := 29) rfl dX0_copyFrom_5 rfl h (fun h => ?_) (fun h => ?_)
    · refine gj_aload_n C (pc' := 9) (i := 0) rfl dX0_copyFrom_8 rfl rfl ?_
      refine gj_getR C (pc' := 12) rfl dX0_copyFrom_9 wf_X0_11 h (fun v1 h => ?_)
      refine gj_iload_n C (pc' := 13) (i := 2) rfl dX0_copyFrom_12 rfl rfl ?_
      refine gj_rald C (pc' := 14) (t := 1) rfl dX0_copyFrom_13 rfl h (fun v2 h => ?_)
      refine gj_aload_n C (pc' := 15) (i := 1) rfl dX0_copyFrom_14 rfl rfl ?_
      refine gj_getR C (pc' := 18) rfl dX0_copyFrom_15 wf_X0_11 h (fun v3 h => ?_)
      refine gj_iload_n C (pc' := 19) (i := 2) rfl dX0_copyFrom_18 rfl rfl ?_
      refine gj_rald C (pc' := 20) (t := 1) rfl dX0_copyFrom_19 rfl h (fun v4 h => ?_)
      refine gj_callVv C (pc' := 23) rfl dX0_copyFrom_20 wm_X0_51 uX3_copyFrom h (kX3_copyFrom _ _ _) (by omega) rfl rfl (Nat.le_of_ble_eq_true rfl) (fun w5 h => ?_)
      refine gj_iinc C (pc' := 26) (i := 2) (v := _ + 1) (lv' := [_, _, _]) rfl dX0_copyFrom_23 rfl rfl (by decide) rfl rfl ?_
      refine gj_goto C (tgt := 2) dX0_copyFrom_26 rfl ?_
      refine gj_drop (lv' := [some _, some _, some _]) (And.intro rfl (And.intro rfl (And.intro rfl True.intro))) ?_
      exact ih h
    · refine gj_iconst C (pc' := 30) (v := 0) rfl dX0_copyFrom_29 (by decide) ?_
      refine gj_istore_n C (pc' := 31) (i := 2) (lv' := [_, _, _]) rfl dX0_copyFrom_30 rfl (by decide) rfl rfl ?_
      refine gj_drop (lv' := [some _, some _, some _]) (And.intro rfl (And.intro rfl (And.intro rfl True.intro))) ?_
      exact kX0_copyFrom_31 C h
set_option maxHeartbeats 4000000 in
set_option maxRecDepth 100000 in
theorem kX0_copyFrom : ∀ (x0 : Nat) (x1 : Nat) (w : ab_W) (w1 : ab_W), sX0_copyFrom x0 x1 w = some w1 → gj_Mv yX0_copyFrom cX0_copyFrom 3 none 2 [.ref x0, .ref x1] w w1 ∧ ab_is w 0 x0 = true := by
  intro x0 x1 w w1 h
  unfold sX0_copyFrom at h
  obtain ⟨hi, h⟩ := ab_ite h
  refine ⟨?_, hi⟩
  refine gj_Mv_of RX0 [some (.ref x0), some (.ref x1), none] (by decide +kernel) rfl (Nat.le_of_ble_eq_true rfl) rfl (fun p l e s m args below meth c D ad tc A C => ?_)
  refine gj_iconst C (pc' := 1) (v := 0) rfl dX0_copyFrom_0 (by decide) ?_
  refine gj_istore_n C (pc' := 2) (i := 2) (lv' := [_, _, _]) rfl dX0_copyFrom_1 rfl (by decide) rfl rfl ?_
  refine gj_drop (lv' := [some _, some _, some _]) (And.intro rfl (And.intro rfl (And.intro rfl True.intro))) ?_
  exact kX0_copyFrom_2 C h
set_option maxHeartbeats 4000000 in
set_option maxRecDepth 100000 in
theorem kX9_image : ∀ (x0 : Nat) (w : ab_W) (r : Int32) (w1 : ab_W), sX9_image x0 w = some (r, w1) → gj_Mi yX9_image cX9_image 1 (some .int) 3 [.ref x0] w r w1 ∧ ab_is w 9 x0 = true := by
  intro x0 w r w1 h
  unfold sX9_image at h
  obtain ⟨hi, h⟩ := ab_ite h
  refine ⟨?_, hi⟩
  refine gj_Mi_of RX9 [some (.ref x0)] (by decide +kernel) rfl (Nat.le_of_ble_eq_true rfl) rfl (fun p l e s m args below meth c D ad tc A C => ?_)
  refine gj_aload_n C (pc' := 1) (i := 0) rfl dX9_image_0 rfl rfl ?_
  refine gj_getR C (pc' := 4) rfl dX9_image_1 wf_X9_34 h (fun v1 h => ?_)
  refine gj_aload_n C (pc' := 5) (i := 0) rfl dX9_image_4 rfl rfl ?_
  refine gj_getR C (pc' := 8) rfl dX9_image_5 wf_X9_30 h (fun v2 h => ?_)
  refine gj_callVv C (pc' := 11) rfl dX9_image_8 wm_X9_297 uX0_copyFrom h (kX0_copyFrom _ _ _) (by omega) rfl rfl (Nat.le_of_ble_eq_true rfl) (fun w3 h => ?_)
  refine gj_aload_n C (pc' := 12) (i := 0) rfl dX9_image_11 rfl rfl ?_
  refine gj_dup C (pc' := 13) rfl dX9_image_12 rfl ?_
  refine gj_getI C (pc' := 16) rfl dX9_image_13 wf_X9_58 h (fun v4 h => ?_)
  refine gj_iconst C (pc' := 17) (v := 1) rfl dX9_image_16 (by decide) ?_
  refine gj_iadd C (pc' := 18) rfl dX9_image_17 ?_
  refine gj_putI C (pc' := 21) (ty := .int) rfl dX9_image_18 wf_X9_58 wp_X9_8 rfl h (fun w5 h => ?_)
  refine gj_aload_n C (pc' := 22) (i := 0) rfl dX9_image_21 rfl rfl ?_
  refine gj_getI C (pc' := 25) rfl dX9_image_22 wf_X9_58 h (fun v6 h => ?_)
  exact gj_iret C dX9_image_25 h
set_option maxHeartbeats 4000000 in
set_option maxRecDepth 100000 in
theorem kX9_restore : ∀ (x0 : Nat) (w : ab_W) (r : Int32) (w1 : ab_W), sX9_restore x0 w = some (r, w1) → gj_Mi yX9_restore cX9_restore 1 (some .int) 3 [.ref x0] w r w1 ∧ ab_is w 9 x0 = true := by
  intro x0 w r w1 h
  unfold sX9_restore at h
  obtain ⟨hi, h⟩ := ab_ite h
  refine ⟨?_, hi⟩
  refine gj_Mi_of RX9 [some (.ref x0)] (by decide +kernel) rfl (Nat.le_of_ble_eq_true rfl) rfl (fun p l e s m args below meth c D ad tc A C => ?_)
  refine gj_aload_n C (pc' := 1) (i := 0) rfl dX9_restore_0 rfl rfl ?_
  refine gj_getI C (pc' := 4) rfl dX9_restore_1 wf_X9_58 h (fun v1 h => ?_)
  refine gj_if_ne C (pc' := 7) (tgt := 13) rfl dX9_restore_4 rfl h (fun h => ?_) (fun h => ?_)
  · refine gj_aload_n C (pc' := 8) (i := 0) rfl dX9_restore_7 rfl rfl ?_
    refine gj_iconst C (pc' := 9) (v := 2) rfl dX9_restore_8 (by decide) ?_
    refine gj_callVi C (pc' := 12) rfl dX9_restore_9 wm_X9_66 uX9_fail h (kX9_fail _ _ _) (by omega) rfl rfl (Nat.le_of_ble_eq_true rfl) (fun v2 w3 h => ?_)
    exact gj_iret C dX9_restore_12 h
  · refine gj_aload_n C (pc' := 14) (i := 0) rfl dX9_restore_13 rfl rfl ?_
    refine gj_getR C (pc' := 17) rfl dX9_restore_14 wf_X9_30 h (fun v4 h => ?_)
    refine gj_aload_n C (pc' := 18) (i := 0) rfl dX9_restore_17 rfl rfl ?_
    refine gj_getR C (pc' := 21) rfl dX9_restore_18 wf_X9_34 h (fun v5 h => ?_)
    refine gj_callVv C (pc' := 24) rfl dX9_restore_21 wm_X9_297 uX0_copyFrom h (kX0_copyFrom _ _ _) (by omega) rfl rfl (Nat.le_of_ble_eq_true rfl) (fun w6 h => ?_)
    refine gj_aload_n C (pc' := 25) (i := 0) rfl dX9_restore_24 rfl rfl ?_
    refine gj_getR C (pc' := 28) rfl dX9_restore_25 wf_X9_30 h (fun v7 h => ?_)
    refine gj_getI C (pc' := 31) rfl dX9_restore_28 wf_X9_163 h (fun v8 h => ?_)
    exact gj_iret C dX9_restore_31 h
set_option maxHeartbeats 4000000 in
set_option maxRecDepth 100000 in
theorem kX9_tell : ∀ (x0 : Nat) (x1 : Int32) (w : ab_W) (r : Int32) (w1 : ab_W), sX9_tell x0 x1 w = some (r, w1) → gj_Mi yX9_tell cX9_tell 2 (some .int) 2 [.ref x0, .int x1] w r w1 ∧ ab_is w 9 x0 = true := by
  intro x0 x1 w r w1 h
  unfold sX9_tell at h
  obtain ⟨hi, h⟩ := ab_ite h
  refine ⟨?_, hi⟩
  refine gj_Mi_of RX9 [some (.ref x0), some (.int x1)] (by decide +kernel) rfl (Nat.le_of_ble_eq_true rfl) rfl (fun p l e s m args below meth c D ad tc A C => ?_)
  refine gj_aload_n C (pc' := 1) (i := 0) rfl dX9_tell_0 rfl rfl ?_
  refine gj_getR C (pc' := 4) rfl dX9_tell_1 wf_X9_30 h (fun v1 h => ?_)
  refine gj_getI C (pc' := 7) rfl dX9_tell_4 wf_X9_300 h (fun v2 h => ?_)
  refine gj_bipush C (pc' := 9) (v := 20) rfl dX9_tell_7 (by decide) ?_
  refine gj_icmp_lt C (pc' := 12) (tgt := 18) rfl dX9_tell_9 rfl h (fun h => ?_) (fun h => ?_)
  · refine gj_aload_n C (pc' := 19) (i := 0) rfl dX9_tell_18 rfl rfl ?_
    refine gj_getR C (pc' := 22) rfl dX9_tell_19 wf_X9_30 h (fun v3 h => ?_)
    refine gj_getR C (pc' := 25) rfl dX9_tell_22 wf_X9_303 h (fun v4 h => ?_)
    refine gj_aload_n C (pc' := 26) (i := 0) rfl dX9_tell_25 rfl rfl ?_
    refine gj_getR C (pc' := 29) rfl dX9_tell_26 wf_X9_30 h (fun v5 h => ?_)
    refine gj_getI C (pc' := 32) rfl dX9_tell_29 wf_X9_300 h (fun v6 h => ?_)
    refine gj_iload_n C (pc' := 33) (i := 1) rfl dX9_tell_32 rfl rfl ?_
    refine gj_iast C (pc' := 34) rfl dX9_tell_33 h (fun w7 h => ?_)
    refine gj_aload_n C (pc' := 35) (i := 0) rfl dX9_tell_34 rfl rfl ?_
    refine gj_getR C (pc' := 38) rfl dX9_tell_35 wf_X9_30 h (fun v8 h => ?_)
    refine gj_dup C (pc' := 39) rfl dX9_tell_38 rfl ?_
    refine gj_getI C (pc' := 42) rfl dX9_tell_39 wf_X9_300 h (fun v9 h => ?_)
    refine gj_iconst C (pc' := 43) (v := 1) rfl dX9_tell_42 (by decide) ?_
    refine gj_iadd C (pc' := 44) rfl dX9_tell_43 ?_
    refine gj_putI C (pc' := 47) (ty := .int) rfl dX9_tell_44 wf_X9_300 wp_X0_8 rfl h (fun w10 h => ?_)
    refine gj_aload_n C (pc' := 48) (i := 0) rfl dX9_tell_47 rfl rfl ?_
    refine gj_getR C (pc' := 51) rfl dX9_tell_48 wf_X9_30 h (fun v11 h => ?_)
    refine gj_getI C (pc' := 54) rfl dX9_tell_51 wf_X9_300 h (fun v12 h => ?_)
    exact gj_iret C dX9_tell_54 h
  · refine gj_aload_n C (pc' := 13) (i := 0) rfl dX9_tell_12 rfl rfl ?_
    refine gj_iconst C (pc' := 14) (v := 4) rfl dX9_tell_13 (by decide) ?_
    refine gj_callVi C (pc' := 17) rfl dX9_tell_14 wm_X9_66 uX9_fail h (kX9_fail _ _ _) (by omega) rfl rfl (Nat.le_of_ble_eq_true rfl) (fun v13 w14 h => ?_)
    exact gj_iret C dX9_tell_17 h
set_option maxHeartbeats 4000000 in
set_option maxRecDepth 100000 in
theorem kX7_firstWrong_97 {p : Program} {l : Launch} {e : Env} {s : State} {m : MethodId} {args : Array Value} {below : List Frame} {meth : Method} {c : Code} {D : va_G} {ad : Nat → Nat} {tc : Nat → ClassId} {A : Nat → Prop} (C : gj_C p s m args meth c D ad tc A cX7_firstWrong 6 (some .int) RX7) {r : Int32} {w1 : ab_W} : ∀ {n : Nat} {x0 : Nat} {x1 : Nat} {x3 : Int32} {w : ab_W}, sX7_firstWrong_97 n x0 x1 x3 w = some (r, w1) → gj_G p l e (gj_R 5) s m args below meth c D ad tc A 6 (gj_Qi D ad tc A below args s r w1) 97 [some (.ref x0), some (.ref x1), none, some (.int x3), none, none] [] w := by
  intro n
  induction n with
  | zero =>
    intros
    rename_i h
    cases h
  | succ n ih =>
    intro x0 x1 x3 w h
    rw [sX7_firstWrong_97] at h
    refine gj_iload_n C (pc' := 98) (i := 3) rfl dX7_firstWrong_97 rfl rfl ?_
    refine gj_aload_n C (pc' := 99) (i := 1) rfl dX7_firstWrong_98 rfl rfl ?_
    refine gj_getI C (pc' := 102) rfl dX7_firstWrong_99 wf_X7_135 h (fun v1 h => ?_)
    refine gj_icmp_ge C (pc' := 105) (tgt := 128) rfl dX7_firstWrong_102 rfl h (fun h => ?_) (fun h => ?_)
    · refine gj_aload_n C (pc' := 106) (i := 1) rfl dX7_firstWrong_105 rfl rfl ?_
      refine gj_getR C (pc' := 109) rfl dX7_firstWrong_106 wf_X7_138 h (fun v2 h => ?_)
      refine gj_iload_n C (pc' := 110) (i := 3) rfl dX7_firstWrong_109 rfl rfl ?_
      refine gj_iald C (pc' := 111) rfl dX7_firstWrong_110 h (fun v3 h => ?_)
      refine gj_aload_n C (pc' := 112) (i := 0) rfl dX7_firstWrong_111 rfl rfl ?_
      refine gj_getR C (pc' := 115) rfl dX7_firstWrong_112 wf_X7_18 h (fun v4 h => ?_)
      refine gj_iload_n C (pc' := 116) (i := 3) rfl dX7_firstWrong_115 rfl rfl ?_
      refine gj_iald C (pc' := 117) rfl dX7_firstWrong_116 h (fun v5 h => ?_)
      refine gj_icmp_eq C (pc' := 120) (tgt := 122) rfl dX7_firstWrong_117 rfl h (fun h => ?_) (fun h => ?_)
      · refine gj_iinc C (pc' := 125) (i := 3) (v := _ + 1) (lv' := [_, _, _, _, _, _]) rfl dX7_firstWrong_122 rfl rfl (by decide) rfl rfl ?_
        refine gj_goto C (tgt := 97) dX7_firstWrong_125 rfl ?_
        refine gj_drop (lv' := [some _, some _, none, some _, none, none]) (And.intro rfl (And.intro rfl (And.intro rfl True.intro))) ?_
        exact ih h
      · refine gj_iload_n C (pc' := 121) (i := 3) rfl dX7_firstWrong_120 rfl rfl ?_
        exact gj_iret C dX7_firstWrong_121 h
    · refine gj_iconst C (pc' := 129) (v := (-1)) rfl dX7_firstWrong_128 (by decide) ?_
      exact gj_iret C dX7_firstWrong_129 h
set_option maxHeartbeats 4000000 in
set_option maxRecDepth 100000 in
theorem kX7_firstWrong_42 {p : Program} {l : Launch} {e : Env} {s : State} {m : MethodId} {args : Array Value} {below : List Frame} {meth : Method} {c : Code} {D : va_G} {ad : Nat → Nat} {tc : Nat → ClassId} {A : Nat → Prop} (C : gj_C p s m args meth c D ad tc A cX7_firstWrong 6 (some .int) RX7) {r : Int32} {w1 : ab_W} {k10 : Nat → Nat → Nat → Int32 → ab_W → Option (Int32 × ab_W)} (hk10 : ∀ {x0 : Nat} {x1 : Nat} {x2 : Nat} {x3 : Int32} {w : ab_W}, k10 x0 x1 x2 x3 w = some (r, w1) → gj_G p l e (gj_R 5) s m args below meth c D ad tc A 6 (gj_Qi D ad tc A below args s r w1) 10 [some (.ref x0), some (.ref x1), some (.ref x2), some (.int x3), none, none] [] w) : ∀ {n : Nat} {x0 : Nat} {x1 : Nat} {x2 : Nat} {x3 : Int32} {x5 : Int32} {w : ab_W}, sX7_firstWrong_42 k10 n x0 x1 x2 x3 x5 w = some (r, w1) → gj_G p l e (gj_R 5) s m args below meth c D ad tc A 6 (gj_Qi D ad tc A below args s r w1) 42 [some (.ref x0), some (.ref x1), some (.ref x2), some (.int x3), none, some (.int x5)] [] w := by
  intro n
  induction n with
  | zero =>
    intros
    rename_i h
    cases h
  | succ n ih =>
    intro x0 x1 x2 x3 x5 w h
    rw [sX7_firstWrong_42] at h
    refine gj_iload C (pc' := 44) (i := 5) rfl dX7_firstWrong_42 rfl ?_
    refine gj_aload_n C (pc' := 45) (i := 1) rfl dX7_firstWrong_44 rfl rfl ?_
    refine gj_getI C (pc' := 48) rfl dX7_firstWrong_45 wf_X7_135 h (fun v1 h => ?_)
    refine gj_icmp_ge C (pc' := 51) (tgt := 89) rfl dX7_firstWrong_48 rfl h (fun h => ?_) (fun h => ?_)
    · refine gj_aload_n C (pc' := 52) (i := 0) rfl dX7_firstWrong_51 rfl rfl ?_
      refine gj_getR C (pc' := 55) rfl dX7_firstWrong_52 wf_X7_12 h (fun v2 h => ?_)
      refine gj_aload_n C (pc' := 56) (i := 1) rfl dX7_firstWrong_55 rfl rfl ?_
      refine gj_aload_n C (pc' := 57) (i := 1) rfl dX7_firstWrong_56 rfl rfl ?_
      refine gj_getI C (pc' := 60) rfl dX7_firstWrong_57 wf_X7_61 h (fun v3 h => ?_)
      refine gj_iload C (pc' := 62) (i := 5) rfl dX7_firstWrong_60 rfl ?_
      refine gj_iadd C (pc' := 63) rfl dX7_firstWrong_62 ?_
      refine gj_callVv C (pc' := 66) rfl dX7_firstWrong_63 wm_X7_100 uX1_goAndLapse h (kX1_goAndLapse _ _ _ _) (by omega) rfl rfl (Nat.le_of_ble_eq_true rfl) (fun w4 h => ?_)
      refine gj_aload_n C (pc' := 67) (i := 0) rfl dX7_firstWrong_66 rfl rfl ?_
      refine gj_getR C (pc' := 70) rfl dX7_firstWrong_67 wf_X7_18 h (fun v5 h => ?_)
      refine gj_iload C (pc' := 72) (i := 5) rfl dX7_firstWrong_70 rfl ?_
      refine gj_dup2 C (pc' := 73) rfl dX7_firstWrong_72 rfl rfl ?_
      refine gj_iald C (pc' := 74) rfl dX7_firstWrong_73 h (fun v6 h => ?_)
      refine gj_aload_n C (pc' := 75) (i := 0) rfl dX7_firstWrong_74 rfl rfl ?_
      refine gj_getR C (pc' := 78) rfl dX7_firstWrong_75 wf_X7_12 h (fun v7 h => ?_)
      refine gj_getI C (pc' := 81) rfl dX7_firstWrong_78 wf_X7_104 h (fun v8 h => ?_)
      refine gj_iadd C (pc' := 82) rfl dX7_firstWrong_81 ?_
      refine gj_iast C (pc' := 83) rfl dX7_firstWrong_82 h (fun w9 h => ?_)
      refine gj_iinc C (pc' := 86) (i := 5) (v := _ + 1) (lv' := [_, _, _, _, _, _]) rfl dX7_firstWrong_83 rfl rfl (by decide) rfl rfl ?_
      refine gj_goto C (tgt := 42) dX7_firstWrong_86 rfl ?_
      refine gj_drop (lv' := [some _, some _, some _, some _, none, some _]) (And.intro rfl (And.intro rfl (And.intro rfl (And.intro rfl (And.intro rfl True.intro))))) ?_
      exact ih h
    · refine gj_iinc C (pc' := 92) (i := 3) (v := _ + 1) (lv' := [_, _, _, _, _, _]) rfl dX7_firstWrong_89 rfl rfl (by decide) rfl rfl ?_
      refine gj_goto C (tgt := 10) dX7_firstWrong_92 rfl ?_
      refine gj_drop (lv' := [some _, some _, some _, some _, none, none]) (And.intro rfl (And.intro rfl (And.intro rfl (And.intro rfl True.intro)))) ?_
      exact hk10 h
set_option maxHeartbeats 4000000 in
set_option maxRecDepth 100000 in
theorem kX7_firstWrong_10 {p : Program} {l : Launch} {e : Env} {s : State} {m : MethodId} {args : Array Value} {below : List Frame} {meth : Method} {c : Code} {D : va_G} {ad : Nat → Nat} {tc : Nat → ClassId} {A : Nat → Prop} (C : gj_C p s m args meth c D ad tc A cX7_firstWrong 6 (some .int) RX7) {r : Int32} {w1 : ab_W} : ∀ {n : Nat} {x0 : Nat} {x1 : Nat} {x2 : Nat} {x3 : Int32} {w : ab_W}, sX7_firstWrong_10 n x0 x1 x2 x3 w = some (r, w1) → gj_G p l e (gj_R 5) s m args below meth c D ad tc A 6 (gj_Qi D ad tc A below args s r w1) 10 [some (.ref x0), some (.ref x1), some (.ref x2), some (.int x3), none, none] [] w := by
  intro n
  induction n with
  | zero =>
    intros
    rename_i h
    cases h
  | succ n ih =>
    intro x0 x1 x2 x3 w h
    rw [sX7_firstWrong_10] at h
    refine gj_iload_n C (pc' := 11) (i := 3) rfl dX7_firstWrong_10 rfl rfl ?_
    refine gj_aload_n C (pc' := 12) (i := 1) rfl dX7_firstWrong_11 rfl rfl ?_
    refine gj_getI C (pc' := 15) rfl dX7_firstWrong_12 wf_X7_35 h (fun v1 h => ?_)
    refine gj_icmp_ge C (pc' := 18) (tgt := 95) rfl dX7_firstWrong_15 rfl h (fun h => ?_) (fun h => ?_)
    · refine gj_aload_n C (pc' := 19) (i := 1) rfl dX7_firstWrong_18 rfl rfl ?_
      refine gj_getR C (pc' := 22) rfl dX7_firstWrong_19 wf_X7_40 h (fun v2 h => ?_)
      refine gj_iload_n C (pc' := 23) (i := 3) rfl dX7_firstWrong_22 rfl rfl ?_
      refine gj_rald C (pc' := 24) (t := 1) rfl dX7_firstWrong_23 rfl h (fun v3 h => ?_)
      refine gj_astore C (pc' := 26) (i := 4) (lv' := [_, _, _, _, _, _]) rfl dX7_firstWrong_24 (by decide) rfl rfl ?_
      refine gj_aload_n C (pc' := 27) (i := 0) rfl dX7_firstWrong_26 rfl rfl ?_
      refine gj_aload_n C (pc' := 28) (i := 1) rfl dX7_firstWrong_27 rfl rfl ?_
      refine gj_aload_n C (pc' := 29) (i := 2) rfl dX7_firstWrong_28 rfl rfl ?_
      refine gj_aload C (pc' := 31) (i := 4) rfl dX7_firstWrong_29 rfl ?_
      refine gj_aload C (pc' := 33) (i := 4) rfl dX7_firstWrong_31 rfl ?_
      refine gj_getI C (pc' := 36) rfl dX7_firstWrong_33 wf_X7_44 h (fun v4 h => ?_)
      refine gj_callVv C (pc' := 39) rfl dX7_firstWrong_36 wm_X7_96 uX7_follow h (kX7_follow _ _ _ _ _ _) (by omega) rfl rfl (Nat.le_of_ble_eq_true rfl) (fun w5 h => ?_)
      refine gj_iconst C (pc' := 40) (v := 0) rfl dX7_firstWrong_39 (by decide) ?_
      refine gj_istore C (pc' := 42) (i := 5) (lv' := [_, _, _, _, _, _]) rfl dX7_firstWrong_40 (by decide) rfl rfl ?_
      refine gj_drop (lv' := [some _, some _, some _, some _, none, some _]) (And.intro rfl (And.intro rfl (And.intro rfl (And.intro rfl (And.intro rfl True.intro))))) ?_
      exact kX7_firstWrong_42 C (fun h => ih h) h
    · refine gj_iconst C (pc' := 96) (v := 0) rfl dX7_firstWrong_95 (by decide) ?_
      refine gj_istore_n C (pc' := 97) (i := 3) (lv' := [_, _, _, _, _, _]) rfl dX7_firstWrong_96 rfl (by decide) rfl rfl ?_
      refine gj_drop (lv' := [some _, some _, none, some _, none, none]) (And.intro rfl (And.intro rfl (And.intro rfl True.intro))) ?_
      exact kX7_firstWrong_97 C h
set_option maxHeartbeats 4000000 in
set_option maxRecDepth 100000 in
theorem kX7_firstWrong : ∀ (x0 : Nat) (x1 : Nat) (x2 : Nat) (w : ab_W) (r : Int32) (w1 : ab_W), sX7_firstWrong x0 x1 x2 w = some (r, w1) → gj_Mi yX7_firstWrong cX7_firstWrong 6 (some .int) 5 [.ref x0, .ref x1, .ref x2] w r w1 ∧ ab_is w 7 x0 = true := by
  intro x0 x1 x2 w r w1 h
  unfold sX7_firstWrong at h
  obtain ⟨hi, h⟩ := ab_ite h
  refine ⟨?_, hi⟩
  refine gj_Mi_of RX7 [some (.ref x0), some (.ref x1), some (.ref x2), none, none, none] (by decide +kernel) rfl (Nat.le_of_ble_eq_true rfl) rfl (fun p l e s m args below meth c D ad tc A C => ?_)
  refine gj_aload_n C (pc' := 1) (i := 0) rfl dX7_firstWrong_0 rfl rfl ?_
  refine gj_getR C (pc' := 4) rfl dX7_firstWrong_1 wf_X7_18 h (fun v1 h => ?_)
  refine gj_iconst C (pc' := 5) (v := 0) rfl dX7_firstWrong_4 (by decide) ?_
  refine gj_callSv C (pc' := 8) rfl dX7_firstWrong_5 wm_X7_129 uJ7_fill_53178 h (kJ7_fill_53178 _ _ _) (by omega) rfl rfl (Nat.le_of_ble_eq_true rfl) (fun w2 h => ?_)
  refine gj_iconst C (pc' := 9) (v := 0) rfl dX7_firstWrong_8 (by decide) ?_
  refine gj_istore_n C (pc' := 10) (i := 3) (lv' := [_, _, _, _, _, _]) rfl dX7_firstWrong_9 rfl (by decide) rfl rfl ?_
  refine gj_drop (lv' := [some _, some _, some _, some _, none, none]) (And.intro rfl (And.intro rfl (And.intro rfl (And.intro rfl True.intro)))) ?_
  exact kX7_firstWrong_10 C h
set_option maxHeartbeats 4000000 in
set_option maxRecDepth 100000 in
theorem kX9_check : ∀ (x0 : Nat) (w : ab_W) (r : Int32) (w1 : ab_W), sX9_check x0 w = some (r, w1) → gj_Mi yX9_check cX9_check 2 (some .int) 6 [.ref x0] w r w1 ∧ ab_is w 9 x0 = true := by
  intro x0 w r w1 h
  unfold sX9_check at h
  obtain ⟨hi, h⟩ := ab_ite h
  refine ⟨?_, hi⟩
  refine gj_Mi_of RX9 [some (.ref x0), none] (by decide +kernel) rfl (Nat.le_of_ble_eq_true rfl) rfl (fun p l e s m args below meth c D ad tc A C => ?_)
  refine gj_aload_n C (pc' := 1) (i := 0) rfl dX9_check_0 rfl rfl ?_
  refine gj_getR C (pc' := 4) rfl dX9_check_1 wf_X9_40 h (fun v1 h => ?_)
  refine gj_aload_n C (pc' := 5) (i := 0) rfl dX9_check_4 rfl rfl ?_
  refine gj_getR C (pc' := 8) rfl dX9_check_5 wf_X9_30 h (fun v2 h => ?_)
  refine gj_aload_n C (pc' := 9) (i := 0) rfl dX9_check_8 rfl rfl ?_
  refine gj_getR C (pc' := 12) rfl dX9_check_9 wf_X9_23 h (fun v3 h => ?_)
  refine gj_callVi C (pc' := 15) rfl dX9_check_12 wm_X9_306 uX7_firstWrong h (kX7_firstWrong _ _ _ _) (by omega) rfl rfl (Nat.le_of_ble_eq_true rfl) (fun v4 w5 h => ?_)
  refine gj_istore_n C (pc' := 16) (i := 1) (lv' := [_, _]) rfl dX9_check_15 rfl (by decide) rfl rfl ?_
  refine gj_aload_n C (pc' := 17) (i := 0) rfl dX9_check_16 rfl rfl ?_
  refine gj_getR C (pc' := 20) rfl dX9_check_17 wf_X9_30 h (fun v6 h => ?_)
  refine gj_iconst C (pc' := 21) (v := 0) rfl dX9_check_20 (by decide) ?_
  refine gj_putI C (pc' := 24) (ty := .int) rfl dX9_check_21 wf_X9_300 wp_X0_8 rfl h (fun w7 h => ?_)
  refine gj_iload_n C (pc' := 25) (i := 1) rfl dX9_check_24 rfl rfl ?_
  refine gj_iconst C (pc' := 26) (v := 1) rfl dX9_check_25 (by decide) ?_
  refine gj_iadd C (pc' := 27) rfl dX9_check_26 ?_
  exact gj_iret C dX9_check_27 h
set_option maxHeartbeats 4000000 in
set_option maxRecDepth 100000 in
theorem kX0_upFrom_43 {p : Program} {l : Launch} {e : Env} {s : State} {m : MethodId} {args : Array Value} {below : List Frame} {meth : Method} {c : Code} {D : va_G} {ad : Nat → Nat} {tc : Nat → ClassId} {A : Nat → Prop} (C : gj_C p s m args meth c D ad tc A cX0_upFrom 4 (some .int) RX0) {r : Int32} {w1 : ab_W} {k4 : Nat → Int32 → Int32 → Int32 → ab_W → Option (Int32 × ab_W)} (hk4 : ∀ {x0 : Nat} {x1 : Int32} {x2 : Int32} {x3 : Int32} {w : ab_W}, k4 x0 x1 x2 x3 w = some (r, w1) → gj_G p l e (gj_R 0) s m args below meth c D ad tc A 4 (gj_Qi D ad tc A below args s r w1) 4 [some (.ref x0), some (.int x1), some (.int x2), some (.int x3)] [] w) {x0 : Nat} {x1 : Int32} {x2 : Int32} {x3 : Int32} {w : ab_W} (h : sX0_upFrom_43 k4 x0 x1 x2 x3 w = some (r, w1)) : gj_G p l e (gj_R 0) s m args below meth c D ad tc A 4 (gj_Qi D ad tc A below args s r w1) 43 [some (.ref x0), some (.int x1), some (.int x2), some (.int x3)] [] w := by
  unfold sX0_upFrom_43 at h
  refine gj_iinc C (pc' := 46) (i := 3) (v := _ + 1) (lv' := [_, _, _, _]) rfl dX0_upFrom_43 rfl rfl (by decide) rfl rfl ?_
  refine gj_goto C (tgt := 4) dX0_upFrom_46 rfl ?_
  refine gj_drop (lv' := [some _, some _, some _, some _]) (And.intro rfl (And.intro rfl (And.intro rfl (And.intro rfl True.intro)))) ?_
  exact hk4 h
set_option maxHeartbeats 4000000 in
set_option maxRecDepth 100000 in
theorem kX0_upFrom_4 {p : Program} {l : Launch} {e : Env} {s : State} {m : MethodId} {args : Array Value} {below : List Frame} {meth : Method} {c : Code} {D : va_G} {ad : Nat → Nat} {tc : Nat → ClassId} {A : Nat → Prop} (C : gj_C p s m args meth c D ad tc A cX0_upFrom 4 (some .int) RX0) {r : Int32} {w1 : ab_W} : ∀ {n : Nat} {x0 : Nat} {x1 : Int32} {x2 : Int32} {x3 : Int32} {w : ab_W}, sX0_upFrom_4 n x0 x1 x2 x3 w = some (r, w1) → gj_G p l e (gj_R 0) s m args below meth c D ad tc A 4 (gj_Qi D ad tc A below args s r w1) 4 [some (.ref x0), some (.int x1), some (.int x2), some (.int x3)] [] w := by
  intro n
  induction n with
  | zero =>
    intros
    rename_i h
    cases h
  | succ n ih =>
    intro x0 x1 x2 x3 w h
    rw [sX0_upFrom_4] at h
    refine gj_iload_n C (pc' := 5) (i := 3) rfl dX0_upFrom_4 rfl rfl ?_
    refine gj_aload_n C (pc' := 6) (i := 0) rfl dX0_upFrom_5 rfl rfl ?_
    refine gj_getI C (pc' := 9) rfl dX0_upFrom_6 wf_X0_32 h (fun v1 h => ?_)
    refine gj_icmp_ge C (pc' := 12) (tgt := 49) rfl dX0_upFrom_9 rfl h (fun h => ?_) (fun h => ?_)
    · refine gj_aload_n C (pc' := 13) (i := 0) rfl dX0_upFrom_12 rfl rfl ?_
      refine gj_getR C (pc' := 16) rfl dX0_upFrom_13 wf_X0_11 h (fun v2 h => ?_)
      refine gj_iload_n C (pc' := 17) (i := 3) rfl dX0_upFrom_16 rfl rfl ?_
      refine gj_rald C (pc' := 18) (t := 1) rfl dX0_upFrom_17 rfl h (fun v3 h => ?_)
      refine gj_getI C (pc' := 21) rfl dX0_upFrom_18 wf_X0_71 h (fun v4 h => ?_)
      refine gj_if_eq C (pc' := 24) (tgt := 43) rfl dX0_upFrom_21 rfl h (fun h => ?_) (fun h => ?_)
      · refine gj_drop (lv' := [some _, some _, some _, some _]) (And.intro rfl (And.intro rfl (And.intro rfl (And.intro rfl True.intro)))) ?_
        exact kX0_upFrom_43 C (fun h => ih h) h
      · refine gj_aload_n C (pc' := 25) (i := 0) rfl dX0_upFrom_24 rfl rfl ?_
        refine gj_getR C (pc' := 28) rfl dX0_upFrom_25 wf_X0_11 h (fun v5 h => ?_)
        refine gj_iload_n C (pc' := 29) (i := 3) rfl dX0_upFrom_28 rfl rfl ?_
        refine gj_rald C (pc' := 30) (t := 1) rfl dX0_upFrom_29 rfl h (fun v6 h => ?_)
        refine gj_getI C (pc' := 33) rfl dX0_upFrom_30 wf_X0_75 h (fun v7 h => ?_)
        refine gj_iload_n C (pc' := 34) (i := 1) rfl dX0_upFrom_33 rfl rfl ?_
        refine gj_icmp_lt C (pc' := 37) (tgt := 43) rfl dX0_upFrom_34 rfl h (fun h => ?_) (fun h => ?_)
        · refine gj_drop (lv' := [some _, some _, some _, some _]) (And.intro rfl (And.intro rfl (And.intro rfl (And.intro rfl True.intro)))) ?_
          exact kX0_upFrom_43 C (fun h => ih h) h
        · refine gj_iload_n C (pc' := 38) (i := 2) rfl dX0_upFrom_37 rfl rfl ?_
          refine gj_iconst C (pc' := 39) (v := 1) rfl dX0_upFrom_38 (by decide) ?_
          refine gj_iload_n C (pc' := 40) (i := 3) rfl dX0_upFrom_39 rfl rfl ?_
          refine gj_ishl C (pc' := 41) rfl dX0_upFrom_40 ?_
          refine gj_ior C (pc' := 42) rfl dX0_upFrom_41 ?_
          refine gj_istore_n C (pc' := 43) (i := 2) (lv' := [_, _, _, _]) rfl dX0_upFrom_42 rfl (by decide) rfl rfl ?_
          refine gj_drop (lv' := [some _, some _, some _, some _]) (And.intro rfl (And.intro rfl (And.intro rfl (And.intro rfl True.intro)))) ?_
          exact kX0_upFrom_43 C (fun h => ih h) h
    · refine gj_iload_n C (pc' := 50) (i := 2) rfl dX0_upFrom_49 rfl rfl ?_
      exact gj_iret C dX0_upFrom_50 h
set_option maxHeartbeats 4000000 in
set_option maxRecDepth 100000 in
theorem kX0_upFrom : ∀ (x0 : Nat) (x1 : Int32) (w : ab_W) (r : Int32) (w1 : ab_W), sX0_upFrom x0 x1 w = some (r, w1) → gj_Mi yX0_upFrom cX0_upFrom 4 (some .int) 0 [.ref x0, .int x1] w r w1 ∧ ab_is w 0 x0 = true := by
  intro x0 x1 w r w1 h
  unfold sX0_upFrom at h
  obtain ⟨hi, h⟩ := ab_ite h
  refine ⟨?_, hi⟩
  refine gj_Mi_of RX0 [some (.ref x0), some (.int x1), none, none] (by decide +kernel) rfl (Nat.le_of_ble_eq_true rfl) rfl (fun p l e s m args below meth c D ad tc A C => ?_)
  refine gj_iconst C (pc' := 1) (v := 0) rfl dX0_upFrom_0 (by decide) ?_
  refine gj_istore_n C (pc' := 2) (i := 2) (lv' := [_, _, _, _]) rfl dX0_upFrom_1 rfl (by decide) rfl rfl ?_
  refine gj_iconst C (pc' := 3) (v := 0) rfl dX0_upFrom_2 (by decide) ?_
  refine gj_istore_n C (pc' := 4) (i := 3) (lv' := [_, _, _, _]) rfl dX0_upFrom_3 rfl (by decide) rfl rfl ?_
  refine gj_drop (lv' := [some _, some _, some _, some _]) (And.intro rfl (And.intro rfl (And.intro rfl (And.intro rfl True.intro)))) ?_
  exact kX0_upFrom_4 C h
set_option maxHeartbeats 4000000 in
set_option maxRecDepth 100000 in
theorem kX9_count : ∀ (x0 : Nat) (x1 : Int32) (w : ab_W) (r : Int32) (w1 : ab_W), sX9_count x0 x1 w = some (r, w1) → gj_Mi yX9_count cX9_count 2 (some .int) 2 [.ref x0, .int x1] w r w1 ∧ ab_is w 9 x0 = true := by
  intro x0 x1 w r w1 h
  unfold sX9_count at h
  obtain ⟨hi, h⟩ := ab_ite h
  refine ⟨?_, hi⟩
  refine gj_Mi_of RX9 [some (.ref x0), some (.int x1)] (by decide +kernel) rfl (Nat.le_of_ble_eq_true rfl) rfl (fun p l e s m args below meth c D ad tc A C => ?_)
  refine gj_iload_n C (pc' := 1) (i := 1) rfl dX9_count_0 rfl rfl ?_
  refine gj_tab C (tgt := 56) dX9_count_1 0 0 (by decide) (by decide) rfl (by decide) h (fun h => ?_) (fun n1_0 h => ?_)
  · refine gj_aload_n C (pc' := 57) (i := 0) rfl dX9_count_56 rfl rfl ?_
    refine gj_getR C (pc' := 60) rfl dX9_count_57 wf_X9_30 h (fun v1 h => ?_)
    refine gj_getI C (pc' := 63) rfl dX9_count_60 wf_X9_70 h (fun v2 h => ?_)
    exact gj_iret C dX9_count_63 h
  refine gj_tab C (tgt := 64) dX9_count_1 1 1 (by decide) (by decide) rfl (by decide) h (fun h => ?_) (fun n1_1 h => ?_)
  · refine gj_aload_n C (pc' := 65) (i := 0) rfl dX9_count_64 rfl rfl ?_
    refine gj_getR C (pc' := 68) rfl dX9_count_65 wf_X9_30 h (fun v3 h => ?_)
    refine gj_getI C (pc' := 71) rfl dX9_count_68 wf_X9_163 h (fun v4 h => ?_)
    exact gj_iret C dX9_count_71 h
  refine gj_tab C (tgt := 72) dX9_count_1 2 2 (by decide) (by decide) rfl (by decide) h (fun h => ?_) (fun n1_2 h => ?_)
  · refine gj_aload_n C (pc' := 73) (i := 0) rfl dX9_count_72 rfl rfl ?_
    refine gj_getR C (pc' := 76) rfl dX9_count_73 wf_X9_30 h (fun v5 h => ?_)
    refine gj_getI C (pc' := 79) rfl dX9_count_76 wf_X9_123 h (fun v6 h => ?_)
    exact gj_iret C dX9_count_79 h
  refine gj_tab C (tgt := 80) dX9_count_1 3 3 (by decide) (by decide) rfl (by decide) h (fun h => ?_) (fun n1_3 h => ?_)
  · refine gj_aload_n C (pc' := 81) (i := 0) rfl dX9_count_80 rfl rfl ?_
    refine gj_getR C (pc' := 84) rfl dX9_count_81 wf_X9_30 h (fun v7 h => ?_)
    refine gj_callVi C (pc' := 87) rfl dX9_count_84 wm_X9_170 uX0_debtOfAll h (kX0_debtOfAll _ _) (by omega) rfl rfl (Nat.le_of_ble_eq_true rfl) (fun v8 w9 h => ?_)
    exact gj_iret C dX9_count_87 h
  refine gj_tab C (tgt := 88) dX9_count_1 4 4 (by decide) (by decide) rfl (by decide) h (fun h => ?_) (fun n1_4 h => ?_)
  · refine gj_aload_n C (pc' := 89) (i := 0) rfl dX9_count_88 rfl rfl ?_
    refine gj_getR C (pc' := 92) rfl dX9_count_89 wf_X9_30 h (fun v10 h => ?_)
    refine gj_iconst C (pc' := 93) (v := 0) rfl dX9_count_92 (by decide) ?_
    refine gj_callVi C (pc' := 96) rfl dX9_count_93 wm_X9_310 uX0_upFrom h (kX0_upFrom _ _ _) (by omega) rfl rfl (Nat.le_of_ble_eq_true rfl) (fun v11 w12 h => ?_)
    exact gj_iret C dX9_count_96 h
  refine gj_tab C (tgt := 97) dX9_count_1 5 5 (by decide) (by decide) rfl (by decide) h (fun h => ?_) (fun n1_5 h => ?_)
  · refine gj_aload_n C (pc' := 98) (i := 0) rfl dX9_count_97 rfl rfl ?_
    refine gj_getR C (pc' := 101) rfl dX9_count_98 wf_X9_30 h (fun v13 h => ?_)
    refine gj_bipush C (pc' := 103) (v := 100) rfl dX9_count_101 (by decide) ?_
    refine gj_callVi C (pc' := 106) rfl dX9_count_103 wm_X9_310 uX0_upFrom h (kX0_upFrom _ _ _) (by omega) rfl rfl (Nat.le_of_ble_eq_true rfl) (fun v14 w15 h => ?_)
    exact gj_iret C dX9_count_106 h
  refine gj_tab C (tgt := 107) dX9_count_1 6 6 (by decide) (by decide) rfl (by decide) h (fun h => ?_) (fun n1_6 h => ?_)
  · refine gj_aload_n C (pc' := 108) (i := 0) rfl dX9_count_107 rfl rfl ?_
    refine gj_getR C (pc' := 111) rfl dX9_count_108 wf_X9_30 h (fun v16 h => ?_)
    refine gj_getI C (pc' := 114) rfl dX9_count_111 wf_X9_130 h (fun v17 h => ?_)
    exact gj_iret C dX9_count_114 h
  refine gj_tab C (tgt := 115) dX9_count_1 7 7 (by decide) (by decide) rfl (by decide) h (fun h => ?_) (fun n1_7 h => ?_)
  · refine gj_aload_n C (pc' := 116) (i := 0) rfl dX9_count_115 rfl rfl ?_
    refine gj_getR C (pc' := 119) rfl dX9_count_116 wf_X9_30 h (fun v18 h => ?_)
    refine gj_getI C (pc' := 122) rfl dX9_count_119 wf_X9_300 h (fun v19 h => ?_)
    exact gj_iret C dX9_count_122 h
  refine gj_tab C (tgt := 123) dX9_count_1 8 8 (by decide) (by decide) rfl (by decide) h (fun h => ?_) (fun n1_8 h => ?_)
  · refine gj_aload_n C (pc' := 124) (i := 0) rfl dX9_count_123 rfl rfl ?_
    refine gj_getR C (pc' := 127) rfl dX9_count_124 wf_X9_54 h (fun v20 h => ?_)
    refine gj_getI C (pc' := 130) rfl dX9_count_127 wf_X9_267 h (fun v21 h => ?_)
    exact gj_iret C dX9_count_130 h
  refine gj_tab C (tgt := 131) dX9_count_1 9 9 (by decide) (by decide) rfl (by decide) h (fun h => ?_) (fun n1_9 h => ?_)
  · refine gj_aload_n C (pc' := 132) (i := 0) rfl dX9_count_131 rfl rfl ?_
    refine gj_getR C (pc' := 135) rfl dX9_count_132 wf_X9_30 h (fun v22 h => ?_)
    refine gj_getI C (pc' := 138) rfl dX9_count_135 wf_X9_260 h (fun v23 h => ?_)
    exact gj_iret C dX9_count_138 h
  refine gj_tabD C (tgt := 139) dX9_count_1 (by decide) (gj_tout _ 0 10 (fun j hj => match j, hj with | 0, _ => lv_neT n1_0 (by decide) | 1, _ => lv_neT n1_1 (by decide) | 2, _ => lv_neT n1_2 (by decide) | 3, _ => lv_neT n1_3 (by decide) | 4, _ => lv_neT n1_4 (by decide) | 5, _ => lv_neT n1_5 (by decide) | 6, _ => lv_neT n1_6 (by decide) | 7, _ => lv_neT n1_7 (by decide) | 8, _ => lv_neT n1_8 (by decide) | 9, _ => lv_neT n1_9 (by decide) | j + 10, hj => absurd hj (by omega))) ?_
  refine gj_aload_n C (pc' := 140) (i := 0) rfl dX9_count_139 rfl rfl ?_
  refine gj_iconst C (pc' := 141) (v := 1) rfl dX9_count_140 (by decide) ?_
  refine gj_callVi C (pc' := 144) rfl dX9_count_141 wm_X9_66 uX9_fail h (kX9_fail _ _ _) (by omega) rfl rfl (Nat.le_of_ble_eq_true rfl) (fun v24 w25 h => ?_)
  exact gj_iret C dX9_count_144 h
set_option maxHeartbeats 4000000 in
set_option maxRecDepth 100000 in
theorem kX9_told : ∀ (x0 : Nat) (x1 : Int32) (w : ab_W) (r : Int32) (w1 : ab_W), sX9_told x0 x1 w = some (r, w1) → gj_Mi yX9_told cX9_told 2 (some .int) 2 [.ref x0, .int x1] w r w1 ∧ ab_is w 9 x0 = true := by
  intro x0 x1 w r w1 h
  unfold sX9_told at h
  obtain ⟨hi, h⟩ := ab_ite h
  refine ⟨?_, hi⟩
  refine gj_Mi_of RX9 [some (.ref x0), some (.int x1)] (by decide +kernel) rfl (Nat.le_of_ble_eq_true rfl) rfl (fun p l e s m args below meth c D ad tc A C => ?_)
  refine gj_iload_n C (pc' := 1) (i := 1) rfl dX9_told_0 rfl rfl ?_
  refine gj_iconst C (pc' := 2) (v := 1) rfl dX9_told_1 (by decide) ?_
  refine gj_iconst C (pc' := 3) (v := 5) rfl dX9_told_2 (by decide) ?_
  refine gj_callSi C (pc' := 6) rfl dX9_told_3 wm_X9_62 uX9_within h (kX9_within _ _ _ _) (by omega) rfl rfl (Nat.le_of_ble_eq_true rfl) (fun v1 w2 h => ?_)
  refine gj_if_ne C (pc' := 9) (tgt := 15) rfl dX9_told_6 rfl h (fun h => ?_) (fun h => ?_)
  · refine gj_aload_n C (pc' := 10) (i := 0) rfl dX9_told_9 rfl rfl ?_
    refine gj_iconst C (pc' := 11) (v := 1) rfl dX9_told_10 (by decide) ?_
    refine gj_callVi C (pc' := 14) rfl dX9_told_11 wm_X9_66 uX9_fail h (kX9_fail _ _ _) (by omega) rfl rfl (Nat.le_of_ble_eq_true rfl) (fun v3 w4 h => ?_)
    exact gj_iret C dX9_told_14 h
  · refine gj_aload_n C (pc' := 16) (i := 0) rfl dX9_told_15 rfl rfl ?_
    refine gj_getR C (pc' := 19) rfl dX9_told_16 wf_X9_9 h (fun v5 h => ?_)
    refine gj_iload_n C (pc' := 20) (i := 1) rfl dX9_told_19 rfl rfl ?_
    refine gj_iald C (pc' := 21) rfl dX9_told_20 h (fun v6 h => ?_)
    exact gj_iret C dX9_told_21 h
set_option maxHeartbeats 4000000 in
set_option maxRecDepth 100000 in
theorem kX10_in : ∀ (x0 : Int32) (x1 : Int32) (x2 : Int32) (w : ab_W) (r : Int32) (w1 : ab_W), sX10_in x0 x1 x2 w = some (r, w1) → gj_Mi yX10_in cX10_in 3 (some .boolean) 0 [.int x0, .int x1, .int x2] w r w1 := by
  intro x0 x1 x2 w r w1 h
  unfold sX10_in at h
  refine gj_Mi_of RX10 [some (.int x0), some (.int x1), some (.int x2)] (by decide +kernel) rfl (Nat.le_of_ble_eq_true rfl) rfl (fun p l e s m args below meth c D ad tc A C => ?_)
  refine gj_iload_n C (pc' := 1) (i := 0) rfl dX10_in_0 rfl rfl ?_
  refine gj_iload_n C (pc' := 2) (i := 1) rfl dX10_in_1 rfl rfl ?_
  refine gj_icmp_lt C (pc' := 5) (tgt := 14) rfl dX10_in_2 rfl h (fun h => ?_) (fun h => ?_)
  · refine gj_iconst C (pc' := 15) (v := 0) rfl dX10_in_14 (by decide) ?_
    exact gj_zret C dX10_in_15 h
  · refine gj_iload_n C (pc' := 6) (i := 0) rfl dX10_in_5 rfl rfl ?_
    refine gj_iload_n C (pc' := 7) (i := 2) rfl dX10_in_6 rfl rfl ?_
    refine gj_icmp_gt C (pc' := 10) (tgt := 14) rfl dX10_in_7 rfl h (fun h => ?_) (fun h => ?_)
    · refine gj_iconst C (pc' := 15) (v := 0) rfl dX10_in_14 (by decide) ?_
      exact gj_zret C dX10_in_15 h
    · refine gj_iconst C (pc' := 11) (v := 1) rfl dX10_in_10 (by decide) ?_
      refine gj_goto C (tgt := 15) dX10_in_11 rfl ?_
      exact gj_zret C dX10_in_15 h
set_option maxHeartbeats 4000000 in
set_option maxRecDepth 100000 in
theorem kX10_errs : ∀ (x0 : Nat) (x1 : Int32) (w : ab_W) (r : Int32) (w1 : ab_W), sX10_errs x0 x1 w = some (r, w1) → gj_Mi yX10_errs cX10_errs 2 (some .int) 0 [.ref x0, .int x1] w r w1 ∧ ab_is w 10 x0 = true := by
  intro x0 x1 w r w1 h
  unfold sX10_errs at h
  obtain ⟨hi, h⟩ := ab_ite h
  refine ⟨?_, hi⟩
  refine gj_Mi_of RX10 [some (.ref x0), some (.int x1)] (by decide +kernel) rfl (Nat.le_of_ble_eq_true rfl) rfl (fun p l e s m args below meth c D ad tc A C => ?_)
  refine gj_aload_n C (pc' := 1) (i := 0) rfl dX10_errs_0 rfl rfl ?_
  refine gj_getR C (pc' := 4) rfl dX10_errs_1 wf_X10_22 h (fun v1 h => ?_)
  refine gj_ldc C (pc' := 6) rfl dX10_errs_4 wk_X10_46 ?_
  refine gj_iload_n C (pc' := 7) (i := 1) rfl dX10_errs_6 rfl rfl ?_
  refine gj_isub C (pc' := 8) rfl dX10_errs_7 ?_
  refine gj_dup2 C (pc' := 9) rfl dX10_errs_8 rfl rfl ?_
  refine gj_iald C (pc' := 10) rfl dX10_errs_9 h (fun v2 h => ?_)
  refine gj_iconst C (pc' := 11) (v := 1) rfl dX10_errs_10 (by decide) ?_
  refine gj_iadd C (pc' := 12) rfl dX10_errs_11 ?_
  refine gj_iast C (pc' := 13) rfl dX10_errs_12 h (fun w3 h => ?_)
  refine gj_iload_n C (pc' := 14) (i := 1) rfl dX10_errs_13 rfl rfl ?_
  exact gj_iret C dX10_errs_14 h
set_option maxHeartbeats 4000000 in
set_option maxRecDepth 100000 in
theorem kX10_held : ∀ (x0 : Int32) (x1 : Int32) (x2 : Int32) (w : ab_W) (r : Int32) (w1 : ab_W), sX10_held x0 x1 x2 w = some (r, w1) → gj_Mi yX10_held cX10_held 3 (some .int) 0 [.int x0, .int x1, .int x2] w r w1 := by
  intro x0 x1 x2 w r w1 h
  unfold sX10_held at h
  refine gj_Mi_of RX10 [some (.int x0), some (.int x1), some (.int x2)] (by decide +kernel) rfl (Nat.le_of_ble_eq_true rfl) rfl (fun p l e s m args below meth c D ad tc A C => ?_)
  refine gj_iload_n C (pc' := 1) (i := 0) rfl dX10_held_0 rfl rfl ?_
  refine gj_iload_n C (pc' := 2) (i := 1) rfl dX10_held_1 rfl rfl ?_
  refine gj_icmp_ge C (pc' := 5) (tgt := 9) rfl dX10_held_2 rfl h (fun h => ?_) (fun h => ?_)
  · refine gj_iload_n C (pc' := 6) (i := 1) rfl dX10_held_5 rfl rfl ?_
    refine gj_goto C (tgt := 19) dX10_held_6 rfl ?_
    exact gj_iret C dX10_held_19 h
  · refine gj_iload_n C (pc' := 10) (i := 0) rfl dX10_held_9 rfl rfl ?_
    refine gj_iload_n C (pc' := 11) (i := 2) rfl dX10_held_10 rfl rfl ?_
    refine gj_icmp_le C (pc' := 14) (tgt := 18) rfl dX10_held_11 rfl h (fun h => ?_) (fun h => ?_)
    · refine gj_iload_n C (pc' := 15) (i := 2) rfl dX10_held_14 rfl rfl ?_
      refine gj_goto C (tgt := 19) dX10_held_15 rfl ?_
      exact gj_iret C dX10_held_19 h
    · refine gj_iload_n C (pc' := 19) (i := 0) rfl dX10_held_18 rfl rfl ?_
      exact gj_iret C dX10_held_19 h
set_option maxHeartbeats 4000000 in
set_option maxRecDepth 100000 in
theorem kX10_moveAll_2 {p : Program} {l : Launch} {e : Env} {s : State} {m : MethodId} {args : Array Value} {below : List Frame} {meth : Method} {c : Code} {D : va_G} {ad : Nat → Nat} {tc : Nat → ClassId} {A : Nat → Prop} (C : gj_C p s m args meth c D ad tc A cX10_moveAll 4 none RX10) {w1 : ab_W} : ∀ {n : Nat} {x1 : Nat} {x2 : Nat} {x3 : Int32} {w : ab_W}, sX10_moveAll_2 n x1 x2 x3 w = some w1 → gj_G p l e (gj_R 0) s m args below meth c D ad tc A 4 (gj_Qv D ad tc A below args s w1) 2 [none, some (.ref x1), some (.ref x2), some (.int x3)] [] w := by
  intro n
  induction n with
  | zero =>
    intros
    rename_i h
    cases h
  | succ n ih =>
    intro x1 x2 x3 w h
    rw [sX10_moveAll_2] at h
    refine gj_iload_n C (pc' := 3) (i := 3) rfl dX10_moveAll_2 rfl rfl ?_
    refine gj_sipush C (pc' := 6) (v := 226) rfl dX10_moveAll_3 (by decide) ?_
    refine gj_icmp_ge C (pc' := 9) (tgt := 21) rfl dX10_moveAll_6 rfl h (fun h => ?_) (fun h => ?_)
    · refine gj_aload_n C (pc' := 10) (i := 2) rfl dX10_moveAll_9 rfl rfl ?_
      refine gj_iload_n C (pc' := 11) (i := 3) rfl dX10_moveAll_10 rfl rfl ?_
      refine gj_aload_n C (pc' := 12) (i := 1) rfl dX10_moveAll_11 rfl rfl ?_
      refine gj_iload_n C (pc' := 13) (i := 3) rfl dX10_moveAll_12 rfl rfl ?_
      refine gj_iald C (pc' := 14) rfl dX10_moveAll_13 h (fun v1 h => ?_)
      refine gj_iast C (pc' := 15) rfl dX10_moveAll_14 h (fun w2 h => ?_)
      refine gj_iinc C (pc' := 18) (i := 3) (v := _ + 1) (lv' := [_, _, _, _]) rfl dX10_moveAll_15 rfl rfl (by decide) rfl rfl ?_
      refine gj_goto C (tgt := 2) dX10_moveAll_18 rfl ?_
      refine gj_drop (lv' := [none, some _, some _, some _]) (And.intro rfl (And.intro rfl (And.intro rfl True.intro))) ?_
      exact ih h
    · exact gj_vret C dX10_moveAll_21 h
set_option maxHeartbeats 4000000 in
set_option maxRecDepth 100000 in
theorem kX10_moveAll : ∀ (x0 : Nat) (x1 : Nat) (x2 : Nat) (w : ab_W) (w1 : ab_W), sX10_moveAll x0 x1 x2 w = some w1 → gj_Mv yX10_moveAll cX10_moveAll 4 none 0 [.ref x0, .ref x1, .ref x2] w w1 ∧ ab_is w 10 x0 = true := by
  intro x0 x1 x2 w w1 h
  unfold sX10_moveAll at h
  obtain ⟨hi, h⟩ := ab_ite h
  refine ⟨?_, hi⟩
  refine gj_Mv_of RX10 [some (.ref x0), some (.ref x1), some (.ref x2), none] (by decide +kernel) rfl (Nat.le_of_ble_eq_true rfl) rfl (fun p l e s m args below meth c D ad tc A C => ?_)
  refine gj_iconst C (pc' := 1) (v := 0) rfl dX10_moveAll_0 (by decide) ?_
  refine gj_istore_n C (pc' := 2) (i := 3) (lv' := [_, _, _, _]) rfl dX10_moveAll_1 rfl (by decide) rfl rfl ?_
  refine gj_drop (lv' := [none, some _, some _, some _]) (And.intro rfl (And.intro rfl (And.intro rfl True.intro))) ?_
  exact kX10_moveAll_2 C h
set_option maxHeartbeats 4000000 in
set_option maxRecDepth 100000 in
theorem kX10_bits_4 {p : Program} {l : Launch} {e : Env} {s : State} {m : MethodId} {args : Array Value} {below : List Frame} {meth : Method} {c : Code} {D : va_G} {ad : Nat → Nat} {tc : Nat → ClassId} {A : Nat → Prop} (C : gj_C p s m args meth c D ad tc A cX10_bits 3 (some .int) RX10) {r : Int32} {w1 : ab_W} : ∀ {n : Nat} {x1 : Int32} {x2 : Int32} {w : ab_W}, sX10_bits_4 n x1 x2 w = some (r, w1) → gj_G p l e (gj_R 0) s m args below meth c D ad tc A 3 (gj_Qi D ad tc A below args s r w1) 4 [none, some (.int x1), some (.int x2)] [] w := by
  intro n
  induction n with
  | zero =>
    intros
    rename_i h
    cases h
  | succ n ih =>
    intro x1 x2 w h
    rw [sX10_bits_4] at h
    refine gj_iload_n C (pc' := 5) (i := 2) rfl dX10_bits_4 rfl rfl ?_
    refine gj_if_eq C (pc' := 8) (tgt := 20) rfl dX10_bits_5 rfl h (fun h => ?_) (fun h => ?_)
    · refine gj_iload_n C (pc' := 21) (i := 1) rfl dX10_bits_20 rfl rfl ?_
      exact gj_iret C dX10_bits_21 h
    · refine gj_iinc C (pc' := 11) (i := 1) (v := _ + 1) (lv' := [_, _, _]) rfl dX10_bits_8 rfl rfl (by decide) rfl rfl ?_
      refine gj_iload_n C (pc' := 12) (i := 2) rfl dX10_bits_11 rfl rfl ?_
      refine gj_iload_n C (pc' := 13) (i := 2) rfl dX10_bits_12 rfl rfl ?_
      refine gj_iconst C (pc' := 14) (v := 1) rfl dX10_bits_13 (by decide) ?_
      refine gj_isub C (pc' := 15) rfl dX10_bits_14 ?_
      refine gj_iand C (pc' := 16) rfl dX10_bits_15 ?_
      refine gj_istore_n C (pc' := 17) (i := 2) (lv' := [_, _, _]) rfl dX10_bits_16 rfl (by decide) rfl rfl ?_
      refine gj_goto C (tgt := 4) dX10_bits_17 rfl ?_
      refine gj_drop (lv' := [none, some _, some _]) (And.intro rfl (And.intro rfl True.intro)) ?_
      exact ih h
set_option maxHeartbeats 4000000 in
set_option maxRecDepth 100000 in
theorem kX10_bits : ∀ (x0 : Int32) (w : ab_W) (r : Int32) (w1 : ab_W), sX10_bits x0 w = some (r, w1) → gj_Mi yX10_bits cX10_bits 3 (some .int) 0 [.int x0] w r w1 := by
  intro x0 w r w1 h
  unfold sX10_bits at h
  refine gj_Mi_of RX10 [some (.int x0), none, none] (by decide +kernel) rfl (Nat.le_of_ble_eq_true rfl) rfl (fun p l e s m args below meth c D ad tc A C => ?_)
  refine gj_iconst C (pc' := 1) (v := 0) rfl dX10_bits_0 (by decide) ?_
  refine gj_istore_n C (pc' := 2) (i := 1) (lv' := [_, _, _]) rfl dX10_bits_1 rfl (by decide) rfl rfl ?_
  refine gj_iload_n C (pc' := 3) (i := 0) rfl dX10_bits_2 rfl rfl ?_
  refine gj_istore_n C (pc' := 4) (i := 2) (lv' := [_, _, _]) rfl dX10_bits_3 rfl (by decide) rfl rfl ?_
  refine gj_drop (lv' := [none, some _, some _]) (And.intro rfl (And.intro rfl True.intro)) ?_
  exact kX10_bits_4 C h
set_option maxHeartbeats 4000000 in
set_option maxRecDepth 100000 in
theorem kX10_its : ∀ (x0 : Nat) (x1 : Int32) (x2 : Int32) (w : ab_W) (r : Int32) (w1 : ab_W), sX10_its x0 x1 x2 w = some (r, w1) → gj_Mi yX10_its cX10_its 3 (some .int) 0 [.ref x0, .int x1, .int x2] w r w1 ∧ ab_is w 10 x0 = true := by
  intro x0 x1 x2 w r w1 h
  unfold sX10_its at h
  obtain ⟨hi, h⟩ := ab_ite h
  refine ⟨?_, hi⟩
  refine gj_Mi_of RX10 [some (.ref x0), some (.int x1), some (.int x2)] (by decide +kernel) rfl (Nat.le_of_ble_eq_true rfl) rfl (fun p l e s m args below meth c D ad tc A C => ?_)
  refine gj_aload_n C (pc' := 1) (i := 0) rfl dX10_its_0 rfl rfl ?_
  refine gj_getR C (pc' := 4) rfl dX10_its_1 wf_X10_7 h (fun v1 h => ?_)
  refine gj_bipush C (pc' := 6) (v := 8) rfl dX10_its_4 (by decide) ?_
  refine gj_bipush C (pc' := 8) (v := 6) rfl dX10_its_6 (by decide) ?_
  refine gj_iload_n C (pc' := 9) (i := 1) rfl dX10_its_8 rfl rfl ?_
  refine gj_imul C (pc' := 10) rfl dX10_its_9 ?_
  refine gj_iadd C (pc' := 11) rfl dX10_its_10 ?_
  refine gj_iload_n C (pc' := 12) (i := 2) rfl dX10_its_11 rfl rfl ?_
  refine gj_iadd C (pc' := 13) rfl dX10_its_12 ?_
  refine gj_iald C (pc' := 14) rfl dX10_its_13 h (fun v2 h => ?_)
  exact gj_iret C dX10_its_14 h
set_option maxHeartbeats 4000000 in
set_option maxRecDepth 100000 in
theorem kX10_gets : ∀ (x0 : Nat) (x1 : Int32) (x2 : Int32) (x3 : Int32) (w : ab_W) (w1 : ab_W), sX10_gets x0 x1 x2 x3 w = some w1 → gj_Mv yX10_gets cX10_gets 4 none 0 [.ref x0, .int x1, .int x2, .int x3] w w1 ∧ ab_is w 10 x0 = true := by
  intro x0 x1 x2 x3 w w1 h
  unfold sX10_gets at h
  obtain ⟨hi, h⟩ := ab_ite h
  refine ⟨?_, hi⟩
  refine gj_Mv_of RX10 [some (.ref x0), some (.int x1), some (.int x2), some (.int x3)] (by decide +kernel) rfl (Nat.le_of_ble_eq_true rfl) rfl (fun p l e s m args below meth c D ad tc A C => ?_)
  refine gj_aload_n C (pc' := 1) (i := 0) rfl dX10_gets_0 rfl rfl ?_
  refine gj_getR C (pc' := 4) rfl dX10_gets_1 wf_X10_7 h (fun v1 h => ?_)
  refine gj_bipush C (pc' := 6) (v := 8) rfl dX10_gets_4 (by decide) ?_
  refine gj_bipush C (pc' := 8) (v := 6) rfl dX10_gets_6 (by decide) ?_
  refine gj_iload_n C (pc' := 9) (i := 1) rfl dX10_gets_8 rfl rfl ?_
  refine gj_imul C (pc' := 10) rfl dX10_gets_9 ?_
  refine gj_iadd C (pc' := 11) rfl dX10_gets_10 ?_
  refine gj_iload_n C (pc' := 12) (i := 2) rfl dX10_gets_11 rfl rfl ?_
  refine gj_iadd C (pc' := 13) rfl dX10_gets_12 ?_
  refine gj_iload_n C (pc' := 14) (i := 3) rfl dX10_gets_13 rfl rfl ?_
  refine gj_iast C (pc' := 15) rfl dX10_gets_14 h (fun w2 h => ?_)
  exact gj_vret C dX10_gets_15 h
set_option maxHeartbeats 4000000 in
set_option maxRecDepth 100000 in
theorem kX10_isPaper : ∀ (x0 : Nat) (x1 : Int32) (w : ab_W) (r : Int32) (w1 : ab_W), sX10_isPaper x0 x1 w = some (r, w1) → gj_Mi yX10_isPaper cX10_isPaper 2 (some .boolean) 1 [.ref x0, .int x1] w r w1 ∧ ab_is w 10 x0 = true := by
  intro x0 x1 w r w1 h
  unfold sX10_isPaper at h
  obtain ⟨hi, h⟩ := ab_ite h
  refine ⟨?_, hi⟩
  refine gj_Mi_of RX10 [some (.ref x0), some (.int x1)] (by decide +kernel) rfl (Nat.le_of_ble_eq_true rfl) rfl (fun p l e s m args below meth c D ad tc A C => ?_)
  refine gj_iload_n C (pc' := 1) (i := 1) rfl dX10_isPaper_0 rfl rfl ?_
  refine gj_iconst C (pc' := 2) (v := 0) rfl dX10_isPaper_1 (by decide) ?_
  refine gj_aload_n C (pc' := 3) (i := 0) rfl dX10_isPaper_2 rfl rfl ?_
  refine gj_getR C (pc' := 6) rfl dX10_isPaper_3 wf_X10_7 h (fun v1 h => ?_)
  refine gj_iconst C (pc' := 7) (v := 2) rfl dX10_isPaper_6 (by decide) ?_
  refine gj_iald C (pc' := 8) rfl dX10_isPaper_7 h (fun v2 h => ?_)
  refine gj_iconst C (pc' := 9) (v := 1) rfl dX10_isPaper_8 (by decide) ?_
  refine gj_isub C (pc' := 10) rfl dX10_isPaper_9 ?_
  refine gj_callSi C (pc' := 13) rfl dX10_isPaper_10 wm_X10_47 uX10_in h (kX10_in _ _ _ _) (by omega) rfl rfl (Nat.le_of_ble_eq_true rfl) (fun v3 w4 h => ?_)
  exact gj_zret C dX10_isPaper_13 h
set_option maxHeartbeats 4000000 in
set_option maxRecDepth 100000 in
theorem kX10_isSet : ∀ (x0 : Int32) (w : ab_W) (r : Int32) (w1 : ab_W), sX10_isSet x0 w = some (r, w1) → gj_Mi yX10_isSet cX10_isSet 1 (some .boolean) 1 [.int x0] w r w1 := by
  intro x0 w r w1 h
  unfold sX10_isSet at h
  refine gj_Mi_of RX10 [some (.int x0)] (by decide +kernel) rfl (Nat.le_of_ble_eq_true rfl) rfl (fun p l e s m args below meth c D ad tc A C => ?_)
  refine gj_iload_n C (pc' := 1) (i := 0) rfl dX10_isSet_0 rfl rfl ?_
  refine gj_iconst C (pc' := 2) (v := 0) rfl dX10_isSet_1 (by decide) ?_
  refine gj_bipush C (pc' := 4) (v := 127) rfl dX10_isSet_2 (by decide) ?_
  refine gj_callSi C (pc' := 7) rfl dX10_isSet_4 wm_X10_47 uX10_in h (kX10_in _ _ _ _) (by omega) rfl rfl (Nat.le_of_ble_eq_true rfl) (fun v1 w2 h => ?_)
  exact gj_zret C dX10_isSet_7 h
set_option maxHeartbeats 4000000 in
set_option maxRecDepth 100000 in
theorem kX10_becomes : ∀ (x0 : Nat) (x1 : Int32) (x2 : Int32) (w : ab_W) (r : Int32) (w1 : ab_W), sX10_becomes x0 x1 x2 w = some (r, w1) → gj_Mi yX10_becomes cX10_becomes 4 (some .int) 0 [.ref x0, .int x1, .int x2] w r w1 ∧ ab_is w 10 x0 = true := by
  intro x0 x1 x2 w r w1 h
  unfold sX10_becomes at h
  obtain ⟨hi, h⟩ := ab_ite h
  refine ⟨?_, hi⟩
  refine gj_Mi_of RX10 [some (.ref x0), some (.int x1), some (.int x2), none] (by decide +kernel) rfl (Nat.le_of_ble_eq_true rfl) rfl (fun p l e s m args below meth c D ad tc A C => ?_)
  refine gj_aload_n C (pc' := 1) (i := 0) rfl dX10_becomes_0 rfl rfl ?_
  refine gj_getR C (pc' := 4) rfl dX10_becomes_1 wf_X10_7 h (fun v1 h => ?_)
  refine gj_iload_n C (pc' := 5) (i := 1) rfl dX10_becomes_4 rfl rfl ?_
  refine gj_iald C (pc' := 6) rfl dX10_becomes_5 h (fun v2 h => ?_)
  refine gj_istore_n C (pc' := 7) (i := 3) (lv' := [_, _, _, _]) rfl dX10_becomes_6 rfl (by decide) rfl rfl ?_
  refine gj_aload_n C (pc' := 8) (i := 0) rfl dX10_becomes_7 rfl rfl ?_
  refine gj_getR C (pc' := 11) rfl dX10_becomes_8 wf_X10_7 h (fun v3 h => ?_)
  refine gj_iload_n C (pc' := 12) (i := 1) rfl dX10_becomes_11 rfl rfl ?_
  refine gj_iload_n C (pc' := 13) (i := 2) rfl dX10_becomes_12 rfl rfl ?_
  refine gj_iast C (pc' := 14) rfl dX10_becomes_13 h (fun w4 h => ?_)
  refine gj_iload_n C (pc' := 15) (i := 3) rfl dX10_becomes_14 rfl rfl ?_
  exact gj_iret C dX10_becomes_15 h
set_option maxHeartbeats 4000000 in
set_option maxRecDepth 100000 in
theorem kX10_paper_21 {p : Program} {l : Launch} {e : Env} {s : State} {m : MethodId} {args : Array Value} {below : List Frame} {meth : Method} {c : Code} {D : va_G} {ad : Nat → Nat} {tc : Nat → ClassId} {A : Nat → Prop} (C : gj_C p s m args meth c D ad tc A cX10_paper 4 (some .int) RX10) {r : Int32} {w1 : ab_W} {x0 : Nat} {w : ab_W} (h : sX10_paper_21 x0 w = some (r, w1)) : gj_G p l e (gj_R 1) s m args below meth c D ad tc A 4 (gj_Qi D ad tc A below args s r w1) 21 [some (.ref x0), none, none, none] [] w := by
  unfold sX10_paper_21 at h
  refine gj_aload_n C (pc' := 22) (i := 0) rfl dX10_paper_21 rfl rfl ?_
  refine gj_ldc C (pc' := 24) rfl dX10_paper_22 wk_X10_51 ?_
  refine gj_callVi C (pc' := 27) rfl dX10_paper_24 wm_X10_52 uX10_errs h (kX10_errs _ _ _) (by omega) rfl rfl (Nat.le_of_ble_eq_true rfl) (fun v1 w2 h => ?_)
  exact gj_iret C dX10_paper_27 h
set_option maxHeartbeats 4000000 in
set_option maxRecDepth 100000 in
theorem kX10_paper : ∀ (x0 : Nat) (x1 : Int32) (x2 : Int32) (w : ab_W) (r : Int32) (w1 : ab_W), sX10_paper x0 x1 x2 w = some (r, w1) → gj_Mi yX10_paper cX10_paper 4 (some .int) 1 [.ref x0, .int x1, .int x2] w r w1 ∧ ab_is w 10 x0 = true := by
  intro x0 x1 x2 w r w1 h
  unfold sX10_paper at h
  obtain ⟨hi, h⟩ := ab_ite h
  refine ⟨?_, hi⟩
  refine gj_Mi_of RX10 [some (.ref x0), some (.int x1), some (.int x2), none] (by decide +kernel) rfl (Nat.le_of_ble_eq_true rfl) rfl (fun p l e s m args below meth c D ad tc A C => ?_)
  refine gj_iload_n C (pc' := 1) (i := 1) rfl dX10_paper_0 rfl rfl ?_
  refine gj_iconst C (pc' := 2) (v := 0) rfl dX10_paper_1 (by decide) ?_
  refine gj_bipush C (pc' := 4) (v := 69) rfl dX10_paper_2 (by decide) ?_
  refine gj_callSi C (pc' := 7) rfl dX10_paper_4 wm_X10_47 uX10_in h (kX10_in _ _ _ _) (by omega) rfl rfl (Nat.le_of_ble_eq_true rfl) (fun v1 w2 h => ?_)
  refine gj_if_eq C (pc' := 10) (tgt := 21) rfl dX10_paper_7 rfl h (fun h => ?_) (fun h => ?_)
  · refine gj_drop (lv' := [some _, none, none, none]) (And.intro rfl True.intro) ?_
    exact kX10_paper_21 C h
  · refine gj_iload_n C (pc' := 11) (i := 2) rfl dX10_paper_10 rfl rfl ?_
    refine gj_iconst C (pc' := 12) (v := 0) rfl dX10_paper_11 (by decide) ?_
    refine gj_sipush C (pc' := 15) (v := 9999) rfl dX10_paper_12 (by decide) ?_
    refine gj_callSi C (pc' := 18) rfl dX10_paper_15 wm_X10_47 uX10_in h (kX10_in _ _ _ _) (by omega) rfl rfl (Nat.le_of_ble_eq_true rfl) (fun v3 w4 h => ?_)
    refine gj_if_ne C (pc' := 21) (tgt := 28) rfl dX10_paper_18 rfl h (fun h => ?_) (fun h => ?_)
    · refine gj_drop (lv' := [some _, none, none, none]) (And.intro rfl True.intro) ?_
      exact kX10_paper_21 C h
    · refine gj_aload_n C (pc' := 29) (i := 0) rfl dX10_paper_28 rfl rfl ?_
      refine gj_getR C (pc' := 32) rfl dX10_paper_29 wf_X10_7 h (fun v5 h => ?_)
      refine gj_iconst C (pc' := 33) (v := 2) rfl dX10_paper_32 (by decide) ?_
      refine gj_iald C (pc' := 34) rfl dX10_paper_33 h (fun v6 h => ?_)
      refine gj_bipush C (pc' := 36) (v := 8) rfl dX10_paper_34 (by decide) ?_
      refine gj_icmp_ne C (pc' := 39) (tgt := 46) rfl dX10_paper_36 rfl h (fun h => ?_) (fun h => ?_)
      · refine gj_aload_n C (pc' := 40) (i := 0) rfl dX10_paper_39 rfl rfl ?_
        refine gj_ldc C (pc' := 42) rfl dX10_paper_40 wk_X10_56 ?_
        refine gj_callVi C (pc' := 45) rfl dX10_paper_42 wm_X10_52 uX10_errs h (kX10_errs _ _ _) (by omega) rfl rfl (Nat.le_of_ble_eq_true rfl) (fun v7 w8 h => ?_)
        exact gj_iret C dX10_paper_45 h
      · refine gj_aload_n C (pc' := 47) (i := 0) rfl dX10_paper_46 rfl rfl ?_
        refine gj_getR C (pc' := 50) rfl dX10_paper_47 wf_X10_7 h (fun v9 h => ?_)
        refine gj_iconst C (pc' := 51) (v := 2) rfl dX10_paper_50 (by decide) ?_
        refine gj_iald C (pc' := 52) rfl dX10_paper_51 h (fun v10 h => ?_)
        refine gj_istore_n C (pc' := 53) (i := 3) (lv' := [_, _, _, _]) rfl dX10_paper_52 rfl (by decide) rfl rfl ?_
        refine gj_aload_n C (pc' := 54) (i := 0) rfl dX10_paper_53 rfl rfl ?_
        refine gj_iload_n C (pc' := 55) (i := 3) rfl dX10_paper_54 rfl rfl ?_
        refine gj_iconst C (pc' := 56) (v := 0) rfl dX10_paper_55 (by decide) ?_
        refine gj_iload_n C (pc' := 57) (i := 1) rfl dX10_paper_56 rfl rfl ?_
        refine gj_bipush C (pc' := 59) (v := 10) rfl dX10_paper_57 (by decide) ?_
        refine gj_idiv C (pc' := 60) rfl dX10_paper_59 h (fun v11 h => ?_)
        refine gj_callVv C (pc' := 63) rfl dX10_paper_60 wm_X10_57 uX10_gets h (kX10_gets _ _ _ _ _) (by omega) rfl rfl (Nat.le_of_ble_eq_true rfl) (fun w12 h => ?_)
        refine gj_aload_n C (pc' := 64) (i := 0) rfl dX10_paper_63 rfl rfl ?_
        refine gj_iload_n C (pc' := 65) (i := 3) rfl dX10_paper_64 rfl rfl ?_
        refine gj_iconst C (pc' := 66) (v := 1) rfl dX10_paper_65 (by decide) ?_
        refine gj_iload_n C (pc' := 67) (i := 1) rfl dX10_paper_66 rfl rfl ?_
        refine gj_bipush C (pc' := 69) (v := 10) rfl dX10_paper_67 (by decide) ?_
        refine gj_irem C (pc' := 70) rfl dX10_paper_69 h (fun v13 h => ?_)
        refine gj_callVv C (pc' := 73) rfl dX10_paper_70 wm_X10_57 uX10_gets h (kX10_gets _ _ _ _ _) (by omega) rfl rfl (Nat.le_of_ble_eq_true rfl) (fun w14 h => ?_)
        refine gj_aload_n C (pc' := 74) (i := 0) rfl dX10_paper_73 rfl rfl ?_
        refine gj_iload_n C (pc' := 75) (i := 3) rfl dX10_paper_74 rfl rfl ?_
        refine gj_iconst C (pc' := 76) (v := 2) rfl dX10_paper_75 (by decide) ?_
        refine gj_iload_n C (pc' := 77) (i := 2) rfl dX10_paper_76 rfl rfl ?_
        refine gj_callVv C (pc' := 80) rfl dX10_paper_77 wm_X10_57 uX10_gets h (kX10_gets _ _ _ _ _) (by omega) rfl rfl (Nat.le_of_ble_eq_true rfl) (fun w15 h => ?_)
        refine gj_aload_n C (pc' := 81) (i := 0) rfl dX10_paper_80 rfl rfl ?_
        refine gj_iload_n C (pc' := 82) (i := 3) rfl dX10_paper_81 rfl rfl ?_
        refine gj_iconst C (pc' := 83) (v := 3) rfl dX10_paper_82 (by decide) ?_
        refine gj_iconst C (pc' := 84) (v := 0) rfl dX10_paper_83 (by decide) ?_
        refine gj_callVv C (pc' := 87) rfl dX10_paper_84 wm_X10_57 uX10_gets h (kX10_gets _ _ _ _ _) (by omega) rfl rfl (Nat.le_of_ble_eq_true rfl) (fun w16 h => ?_)
        refine gj_aload_n C (pc' := 88) (i := 0) rfl dX10_paper_87 rfl rfl ?_
        refine gj_iload_n C (pc' := 89) (i := 3) rfl dX10_paper_88 rfl rfl ?_
        refine gj_iconst C (pc' := 90) (v := 4) rfl dX10_paper_89 (by decide) ?_
        refine gj_iconst C (pc' := 91) (v := 0) rfl dX10_paper_90 (by decide) ?_
        refine gj_callVv C (pc' := 94) rfl dX10_paper_91 wm_X10_57 uX10_gets h (kX10_gets _ _ _ _ _) (by omega) rfl rfl (Nat.le_of_ble_eq_true rfl) (fun w17 h => ?_)
        refine gj_aload_n C (pc' := 95) (i := 0) rfl dX10_paper_94 rfl rfl ?_
        refine gj_iload_n C (pc' := 96) (i := 3) rfl dX10_paper_95 rfl rfl ?_
        refine gj_iconst C (pc' := 97) (v := 5) rfl dX10_paper_96 (by decide) ?_
        refine gj_iconst C (pc' := 98) (v := 0) rfl dX10_paper_97 (by decide) ?_
        refine gj_callVv C (pc' := 101) rfl dX10_paper_98 wm_X10_57 uX10_gets h (kX10_gets _ _ _ _ _) (by omega) rfl rfl (Nat.le_of_ble_eq_true rfl) (fun w18 h => ?_)
        refine gj_aload_n C (pc' := 102) (i := 0) rfl dX10_paper_101 rfl rfl ?_
        refine gj_getR C (pc' := 105) rfl dX10_paper_102 wf_X10_7 h (fun v19 h => ?_)
        refine gj_iconst C (pc' := 106) (v := 2) rfl dX10_paper_105 (by decide) ?_
        refine gj_dup2 C (pc' := 107) rfl dX10_paper_106 rfl rfl ?_
        refine gj_iald C (pc' := 108) rfl dX10_paper_107 h (fun v20 h => ?_)
        refine gj_iconst C (pc' := 109) (v := 1) rfl dX10_paper_108 (by decide) ?_
        refine gj_iadd C (pc' := 110) rfl dX10_paper_109 ?_
        refine gj_iast C (pc' := 111) rfl dX10_paper_110 h (fun w21 h => ?_)
        refine gj_iload_n C (pc' := 112) (i := 3) rfl dX10_paper_111 rfl rfl ?_
        exact gj_iret C dX10_paper_112 h
set_option maxHeartbeats 4000000 in
set_option maxRecDepth 100000 in
theorem kX10_lies_87 {p : Program} {l : Launch} {e : Env} {s : State} {m : MethodId} {args : Array Value} {below : List Frame} {meth : Method} {c : Code} {D : va_G} {ad : Nat → Nat} {tc : Nat → ClassId} {A : Nat → Prop} (C : gj_C p s m args meth c D ad tc A cX10_lies 6 none RX10) {w1 : ab_W} {k39 : Nat → Int32 → Int32 → Int32 → Int32 → ab_W → Option (ab_W)} (hk39 : ∀ {x0 : Nat} {x1 : Int32} {x2 : Int32} {x3 : Int32} {x4 : Int32} {w : ab_W}, k39 x0 x1 x2 x3 x4 w = some w1 → gj_G p l e (gj_R 0) s m args below meth c D ad tc A 6 (gj_Qv D ad tc A below args s w1) 39 [some (.ref x0), some (.int x1), some (.int x2), some (.int x3), some (.int x4), none] [] w) {x0 : Nat} {x1 : Int32} {x2 : Int32} {x4 : Int32} {p0 : Int32} {w : ab_W} (h : sX10_lies_87 k39 x0 x1 x2 x4 p0 w = some w1) : gj_G p l e (gj_R 0) s m args below meth c D ad tc A 6 (gj_Qv D ad tc A below args s w1) 87 [some (.ref x0), some (.int x1), some (.int x2), none, some (.int x4), none] [.int p0] w := by
  unfold sX10_lies_87 at h
  refine gj_istore_n C (pc' := 88) (i := 3) (lv' := [_, _, _, _, _, _]) rfl dX10_lies_87 rfl (by decide) rfl rfl ?_
  refine gj_aload_n C (pc' := 89) (i := 0) rfl dX10_lies_88 rfl rfl ?_
  refine gj_getR C (pc' := 92) rfl dX10_lies_89 wf_X10_25 h (fun v1 h => ?_)
  refine gj_iload_n C (pc' := 93) (i := 2) rfl dX10_lies_92 rfl rfl ?_
  refine gj_dup2 C (pc' := 94) rfl dX10_lies_93 rfl rfl ?_
  refine gj_iald C (pc' := 95) rfl dX10_lies_94 h (fun v2 h => ?_)
  refine gj_iconst C (pc' := 96) (v := 1) rfl dX10_lies_95 (by decide) ?_
  refine gj_iadd C (pc' := 97) rfl dX10_lies_96 ?_
  refine gj_iast C (pc' := 98) rfl dX10_lies_97 h (fun w3 h => ?_)
  refine gj_iinc C (pc' := 101) (i := 4) (v := _ + 1) (lv' := [_, _, _, _, _, _]) rfl dX10_lies_98 rfl rfl (by decide) rfl rfl ?_
  refine gj_goto C (tgt := 39) dX10_lies_101 rfl ?_
  refine gj_drop (lv' := [some _, some _, some _, some _, some _, none]) (And.intro rfl (And.intro rfl (And.intro rfl (And.intro rfl (And.intro rfl True.intro))))) ?_
  exact hk39 h
set_option maxHeartbeats 4000000 in
set_option maxRecDepth 100000 in
theorem kX10_lies_74 {p : Program} {l : Launch} {e : Env} {s : State} {m : MethodId} {args : Array Value} {below : List Frame} {meth : Method} {c : Code} {D : va_G} {ad : Nat → Nat} {tc : Nat → ClassId} {A : Nat → Prop} (C : gj_C p s m args meth c D ad tc A cX10_lies 6 none RX10) {w1 : ab_W} {k39 : Nat → Int32 → Int32 → Int32 → Int32 → ab_W → Option (ab_W)} (hk39 : ∀ {x0 : Nat} {x1 : Int32} {x2 : Int32} {x3 : Int32} {x4 : Int32} {w : ab_W}, k39 x0 x1 x2 x3 x4 w = some w1 → gj_G p l e (gj_R 0) s m args below meth c D ad tc A 6 (gj_Qv D ad tc A below args s w1) 39 [some (.ref x0), some (.int x1), some (.int x2), some (.int x3), some (.int x4), none] [] w) {x0 : Nat} {x1 : Int32} {x3 : Int32} {x4 : Int32} {x5 : Int32} {p0 : Int32} {p1 : Int32} {w : ab_W} (h : sX10_lies_74 k39 x0 x1 x3 x4 x5 p0 p1 w = some w1) : gj_G p l e (gj_R 0) s m args below meth c D ad tc A 6 (gj_Qv D ad tc A below args s w1) 74 [some (.ref x0), some (.int x1), none, some (.int x3), some (.int x4), some (.int x5)] [.int p1, .int p0] w := by
  unfold sX10_lies_74 at h
  refine gj_iadd C (pc' := 75) rfl dX10_lies_74 ?_
  refine gj_istore_n C (pc' := 76) (i := 2) (lv' := [_, _, _, _, _, _]) rfl dX10_lies_75 rfl (by decide) rfl rfl ?_
  refine gj_iload C (pc' := 78) (i := 5) rfl dX10_lies_76 rfl ?_
  refine gj_if_eq C (pc' := 81) (tgt := 86) rfl dX10_lies_78 rfl h (fun h => ?_) (fun h => ?_)
  · refine gj_iload_n C (pc' := 87) (i := 3) rfl dX10_lies_86 rfl rfl ?_
    refine gj_drop (lv' := [some _, some _, some _, none, some _, none]) (And.intro rfl (And.intro rfl (And.intro rfl (And.intro rfl True.intro)))) ?_
    exact kX10_lies_87 C (fun h => hk39 h) h
  · refine gj_iload_n C (pc' := 82) (i := 3) rfl dX10_lies_81 rfl rfl ?_
    refine gj_ineg C (pc' := 83) rfl dX10_lies_82 ?_
    refine gj_goto C (tgt := 87) dX10_lies_83 rfl ?_
    refine gj_drop (lv' := [some _, some _, some _, none, some _, none]) (And.intro rfl (And.intro rfl (And.intro rfl (And.intro rfl True.intro)))) ?_
    exact kX10_lies_87 C (fun h => hk39 h) h
set_option maxHeartbeats 4000000 in
set_option maxRecDepth 100000 in
theorem kX10_lies_61 {p : Program} {l : Launch} {e : Env} {s : State} {m : MethodId} {args : Array Value} {below : List Frame} {meth : Method} {c : Code} {D : va_G} {ad : Nat → Nat} {tc : Nat → ClassId} {A : Nat → Prop} (C : gj_C p s m args meth c D ad tc A cX10_lies 6 none RX10) {w1 : ab_W} {k39 : Nat → Int32 → Int32 → Int32 → Int32 → ab_W → Option (ab_W)} (hk39 : ∀ {x0 : Nat} {x1 : Int32} {x2 : Int32} {x3 : Int32} {x4 : Int32} {w : ab_W}, k39 x0 x1 x2 x3 x4 w = some w1 → gj_G p l e (gj_R 0) s m args below meth c D ad tc A 6 (gj_Qv D ad tc A below args s w1) 39 [some (.ref x0), some (.int x1), some (.int x2), some (.int x3), some (.int x4), none] [] w) {x0 : Nat} {x1 : Int32} {x2 : Int32} {x3 : Int32} {x4 : Int32} {p0 : Int32} {w : ab_W} (h : sX10_lies_61 k39 x0 x1 x2 x3 x4 p0 w = some w1) : gj_G p l e (gj_R 0) s m args below meth c D ad tc A 6 (gj_Qv D ad tc A below args s w1) 61 [some (.ref x0), some (.int x1), some (.int x2), some (.int x3), some (.int x4), none] [.int p0] w := by
  unfold sX10_lies_61 at h
  refine gj_istore C (pc' := 63) (i := 5) (lv' := [_, _, _, _, _, _]) rfl dX10_lies_61 (by decide) rfl rfl ?_
  refine gj_iload_n C (pc' := 64) (i := 2) rfl dX10_lies_63 rfl rfl ?_
  refine gj_iload C (pc' := 66) (i := 5) rfl dX10_lies_64 rfl ?_
  refine gj_if_eq C (pc' := 69) (tgt := 73) rfl dX10_lies_66 rfl h (fun h => ?_) (fun h => ?_)
  · refine gj_iload_n C (pc' := 74) (i := 3) rfl dX10_lies_73 rfl rfl ?_
    refine gj_drop (lv' := [some _, some _, none, some _, some _, some _]) (And.intro rfl (And.intro rfl (And.intro rfl (And.intro rfl (And.intro rfl True.intro))))) ?_
    exact kX10_lies_74 C (fun h => hk39 h) h
  · refine gj_iconst C (pc' := 70) (v := 0) rfl dX10_lies_69 (by decide) ?_
    refine gj_goto C (tgt := 74) dX10_lies_70 rfl ?_
    refine gj_drop (lv' := [some _, some _, none, some _, some _, some _]) (And.intro rfl (And.intro rfl (And.intro rfl (And.intro rfl (And.intro rfl True.intro))))) ?_
    exact kX10_lies_74 C (fun h => hk39 h) h
set_option maxHeartbeats 4000000 in
set_option maxRecDepth 100000 in
theorem kX10_lies_39 {p : Program} {l : Launch} {e : Env} {s : State} {m : MethodId} {args : Array Value} {below : List Frame} {meth : Method} {c : Code} {D : va_G} {ad : Nat → Nat} {tc : Nat → ClassId} {A : Nat → Prop} (C : gj_C p s m args meth c D ad tc A cX10_lies 6 none RX10) {w1 : ab_W} : ∀ {n : Nat} {x0 : Nat} {x1 : Int32} {x2 : Int32} {x3 : Int32} {x4 : Int32} {w : ab_W}, sX10_lies_39 n x0 x1 x2 x3 x4 w = some w1 → gj_G p l e (gj_R 0) s m args below meth c D ad tc A 6 (gj_Qv D ad tc A below args s w1) 39 [some (.ref x0), some (.int x1), some (.int x2), some (.int x3), some (.int x4), none] [] w := by
  intro n
  induction n with
  | zero =>
    intros
    rename_i h
    cases h
  | succ n ih =>
    intro x0 x1 x2 x3 x4 w h
    rw [sX10_lies_39] at h
    refine gj_iload C (pc' := 41) (i := 4) rfl dX10_lies_39 rfl ?_
    refine gj_bipush C (pc' := 43) (v := 7) rfl dX10_lies_41 (by decide) ?_
    refine gj_icmp_ge C (pc' := 46) (tgt := 104) rfl dX10_lies_43 rfl h (fun h => ?_) (fun h => ?_)
    · refine gj_iload_n C (pc' := 47) (i := 1) rfl dX10_lies_46 rfl rfl ?_
      refine gj_iload C (pc' := 49) (i := 4) rfl dX10_lies_47 rfl ?_
      refine gj_ishr C (pc' := 50) rfl dX10_lies_49 ?_
      refine gj_iconst C (pc' := 51) (v := 1) rfl dX10_lies_50 (by decide) ?_
      refine gj_iand C (pc' := 52) rfl dX10_lies_51 ?_
      refine gj_iconst C (pc' := 53) (v := 1) rfl dX10_lies_52 (by decide) ?_
      refine gj_icmp_ne C (pc' := 56) (tgt := 60) rfl dX10_lies_53 rfl h (fun h => ?_) (fun h => ?_)
      · refine gj_iconst C (pc' := 57) (v := 1) rfl dX10_lies_56 (by decide) ?_
        refine gj_goto C (tgt := 61) dX10_lies_57 rfl ?_
        refine gj_drop (lv' := [some _, some _, some _, some _, some _, none]) (And.intro rfl (And.intro rfl (And.intro rfl (And.intro rfl (And.intro rfl True.intro))))) ?_
        exact kX10_lies_61 C (fun h => ih h) h
      · refine gj_iconst C (pc' := 61) (v := 0) rfl dX10_lies_60 (by decide) ?_
        refine gj_drop (lv' := [some _, some _, some _, some _, some _, none]) (And.intro rfl (And.intro rfl (And.intro rfl (And.intro rfl (And.intro rfl True.intro))))) ?_
        exact kX10_lies_61 C (fun h => ih h) h
    · exact gj_vret C dX10_lies_104 h
set_option maxHeartbeats 4000000 in
set_option maxRecDepth 100000 in
theorem kX10_lies_2 {p : Program} {l : Launch} {e : Env} {s : State} {m : MethodId} {args : Array Value} {below : List Frame} {meth : Method} {c : Code} {D : va_G} {ad : Nat → Nat} {tc : Nat → ClassId} {A : Nat → Prop} (C : gj_C p s m args meth c D ad tc A cX10_lies 6 none RX10) {w1 : ab_W} : ∀ {n : Nat} {x0 : Nat} {x1 : Int32} {x2 : Int32} {w : ab_W}, sX10_lies_2 n x0 x1 x2 w = some w1 → gj_G p l e (gj_R 0) s m args below meth c D ad tc A 6 (gj_Qv D ad tc A below args s w1) 2 [some (.ref x0), some (.int x1), some (.int x2), none, none, none] [] w := by
  intro n
  induction n with
  | zero =>
    intros
    rename_i h
    cases h
  | succ n ih =>
    intro x0 x1 x2 w h
    rw [sX10_lies_2] at h
    refine gj_iload_n C (pc' := 3) (i := 2) rfl dX10_lies_2 rfl rfl ?_
    refine gj_bipush C (pc' := 5) (v := 16) rfl dX10_lies_3 (by decide) ?_
    refine gj_icmp_ge C (pc' := 8) (tgt := 21) rfl dX10_lies_5 rfl h (fun h => ?_) (fun h => ?_)
    · refine gj_aload_n C (pc' := 9) (i := 0) rfl dX10_lies_8 rfl rfl ?_
      refine gj_getR C (pc' := 12) rfl dX10_lies_9 wf_X10_25 h (fun v1 h => ?_)
      refine gj_iload_n C (pc' := 13) (i := 2) rfl dX10_lies_12 rfl rfl ?_
      refine gj_iconst C (pc' := 14) (v := 0) rfl dX10_lies_13 (by decide) ?_
      refine gj_iast C (pc' := 15) rfl dX10_lies_14 h (fun w2 h => ?_)
      refine gj_iinc C (pc' := 18) (i := 2) (v := _ + 1) (lv' := [_, _, _, _, _, _]) rfl dX10_lies_15 rfl rfl (by decide) rfl rfl ?_
      refine gj_goto C (tgt := 2) dX10_lies_18 rfl ?_
      refine gj_drop (lv' := [some _, some _, some _, none, none, none]) (And.intro rfl (And.intro rfl (And.intro rfl True.intro))) ?_
      exact ih h
    · refine gj_bipush C (pc' := 23) (v := 8) rfl dX10_lies_21 (by decide) ?_
      refine gj_istore_n C (pc' := 24) (i := 2) (lv' := [_, _, _, _, _, _]) rfl dX10_lies_23 rfl (by decide) rfl rfl ?_
      refine gj_iconst C (pc' := 25) (v := 1) rfl dX10_lies_24 (by decide) ?_
      refine gj_istore_n C (pc' := 26) (i := 3) (lv' := [_, _, _, _, _, _]) rfl dX10_lies_25 rfl (by decide) rfl rfl ?_
      refine gj_aload_n C (pc' := 27) (i := 0) rfl dX10_lies_26 rfl rfl ?_
      refine gj_getR C (pc' := 30) rfl dX10_lies_27 wf_X10_25 h (fun v3 h => ?_)
      refine gj_iload_n C (pc' := 31) (i := 2) rfl dX10_lies_30 rfl rfl ?_
      refine gj_dup2 C (pc' := 32) rfl dX10_lies_31 rfl rfl ?_
      refine gj_iald C (pc' := 33) rfl dX10_lies_32 h (fun v4 h => ?_)
      refine gj_iconst C (pc' := 34) (v := 1) rfl dX10_lies_33 (by decide) ?_
      refine gj_iadd C (pc' := 35) rfl dX10_lies_34 ?_
      refine gj_iast C (pc' := 36) rfl dX10_lies_35 h (fun w5 h => ?_)
      refine gj_iconst C (pc' := 37) (v := 0) rfl dX10_lies_36 (by decide) ?_
      refine gj_istore C (pc' := 39) (i := 4) (lv' := [_, _, _, _, _, _]) rfl dX10_lies_37 (by decide) rfl rfl ?_
      refine gj_drop (lv' := [some _, some _, some _, some _, some _, none]) (And.intro rfl (And.intro rfl (And.intro rfl (And.intro rfl (And.intro rfl True.intro))))) ?_
      exact kX10_lies_39 C h
set_option maxHeartbeats 4000000 in
set_option maxRecDepth 100000 in
theorem kX10_lies : ∀ (x0 : Nat) (x1 : Int32) (w : ab_W) (w1 : ab_W), sX10_lies x0 x1 w = some w1 → gj_Mv yX10_lies cX10_lies 6 none 0 [.ref x0, .int x1] w w1 ∧ ab_is w 10 x0 = true := by
  intro x0 x1 w w1 h
  unfold sX10_lies at h
  obtain ⟨hi, h⟩ := ab_ite h
  refine ⟨?_, hi⟩
  refine gj_Mv_of RX10 [some (.ref x0), some (.int x1), none, none, none, none] (by decide +kernel) rfl (Nat.le_of_ble_eq_true rfl) rfl (fun p l e s m args below meth c D ad tc A C => ?_)
  refine gj_iconst C (pc' := 1) (v := 0) rfl dX10_lies_0 (by decide) ?_
  refine gj_istore_n C (pc' := 2) (i := 2) (lv' := [_, _, _, _, _, _]) rfl dX10_lies_1 rfl (by decide) rfl rfl ?_
  refine gj_drop (lv' := [some _, some _, some _, none, none, none]) (And.intro rfl (And.intro rfl (And.intro rfl True.intro))) ?_
  exact kX10_lies_2 C h
set_option maxHeartbeats 4000000 in
set_option maxRecDepth 100000 in
theorem kX10_wide_25 {p : Program} {l : Launch} {e : Env} {s : State} {m : MethodId} {args : Array Value} {below : List Frame} {meth : Method} {c : Code} {D : va_G} {ad : Nat → Nat} {tc : Nat → ClassId} {A : Nat → Prop} (C : gj_C p s m args meth c D ad tc A cX10_wide 4 (some .int) RX10) {r : Int32} {w1 : ab_W} : ∀ {n : Nat} {x0 : Nat} {x2 : Int32} {x3 : Int32} {w : ab_W}, sX10_wide_25 n x0 x2 x3 w = some (r, w1) → gj_G p l e (gj_R 1) s m args below meth c D ad tc A 4 (gj_Qi D ad tc A below args s r w1) 25 [some (.ref x0), none, some (.int x2), some (.int x3)] [] w := by
  intro n
  induction n with
  | zero =>
    intros
    rename_i h
    cases h
  | succ n ih =>
    intro x0 x2 x3 w h
    rw [sX10_wide_25] at h
    refine gj_aload_n C (pc' := 26) (i := 0) rfl dX10_wide_25 rfl rfl ?_
    refine gj_getR C (pc' := 29) rfl dX10_wide_26 wf_X10_25 h (fun v1 h => ?_)
    refine gj_iload_n C (pc' := 30) (i := 3) rfl dX10_wide_29 rfl rfl ?_
    refine gj_iald C (pc' := 31) rfl dX10_wide_30 h (fun v2 h => ?_)
    refine gj_if_ne C (pc' := 34) (tgt := 40) rfl dX10_wide_31 rfl h (fun h => ?_) (fun h => ?_)
    · refine gj_iinc C (pc' := 37) (i := 3) (v := _ + (-1)) (lv' := [_, _, _, _]) rfl dX10_wide_34 rfl rfl (by decide) rfl rfl ?_
      refine gj_goto C (tgt := 25) dX10_wide_37 rfl ?_
      refine gj_drop (lv' := [some _, none, some _, some _]) (And.intro rfl (And.intro rfl (And.intro rfl True.intro))) ?_
      exact ih h
    · refine gj_iload_n C (pc' := 41) (i := 3) rfl dX10_wide_40 rfl rfl ?_
      refine gj_iload_n C (pc' := 42) (i := 2) rfl dX10_wide_41 rfl rfl ?_
      refine gj_isub C (pc' := 43) rfl dX10_wide_42 ?_
      refine gj_iconst C (pc' := 44) (v := 1) rfl dX10_wide_43 (by decide) ?_
      refine gj_iadd C (pc' := 45) rfl dX10_wide_44 ?_
      exact gj_iret C dX10_wide_45 h
set_option maxHeartbeats 4000000 in
set_option maxRecDepth 100000 in
theorem kX10_wide_10 {p : Program} {l : Launch} {e : Env} {s : State} {m : MethodId} {args : Array Value} {below : List Frame} {meth : Method} {c : Code} {D : va_G} {ad : Nat → Nat} {tc : Nat → ClassId} {A : Nat → Prop} (C : gj_C p s m args meth c D ad tc A cX10_wide 4 (some .int) RX10) {r : Int32} {w1 : ab_W} : ∀ {n : Nat} {x0 : Nat} {x2 : Int32} {x3 : Int32} {w : ab_W}, sX10_wide_10 n x0 x2 x3 w = some (r, w1) → gj_G p l e (gj_R 1) s m args below meth c D ad tc A 4 (gj_Qi D ad tc A below args s r w1) 10 [some (.ref x0), none, some (.int x2), some (.int x3)] [] w := by
  intro n
  induction n with
  | zero =>
    intros
    rename_i h
    cases h
  | succ n ih =>
    intro x0 x2 x3 w h
    rw [sX10_wide_10] at h
    refine gj_aload_n C (pc' := 11) (i := 0) rfl dX10_wide_10 rfl rfl ?_
    refine gj_getR C (pc' := 14) rfl dX10_wide_11 wf_X10_25 h (fun v1 h => ?_)
    refine gj_iload_n C (pc' := 15) (i := 2) rfl dX10_wide_14 rfl rfl ?_
    refine gj_iald C (pc' := 16) rfl dX10_wide_15 h (fun v2 h => ?_)
    refine gj_if_ne C (pc' := 19) (tgt := 25) rfl dX10_wide_16 rfl h (fun h => ?_) (fun h => ?_)
    · refine gj_iinc C (pc' := 22) (i := 2) (v := _ + 1) (lv' := [_, _, _, _]) rfl dX10_wide_19 rfl rfl (by decide) rfl rfl ?_
      refine gj_goto C (tgt := 10) dX10_wide_22 rfl ?_
      refine gj_drop (lv' := [some _, none, some _, some _]) (And.intro rfl (And.intro rfl (And.intro rfl True.intro))) ?_
      exact ih h
    · refine gj_drop (lv' := [some _, none, some _, some _]) (And.intro rfl (And.intro rfl (And.intro rfl True.intro))) ?_
      exact kX10_wide_25 C h
set_option maxHeartbeats 4000000 in
set_option maxRecDepth 100000 in
theorem kX10_wide : ∀ (x0 : Nat) (x1 : Int32) (w : ab_W) (r : Int32) (w1 : ab_W), sX10_wide x0 x1 w = some (r, w1) → gj_Mi yX10_wide cX10_wide 4 (some .int) 1 [.ref x0, .int x1] w r w1 ∧ ab_is w 10 x0 = true := by
  intro x0 x1 w r w1 h
  unfold sX10_wide at h
  obtain ⟨hi, h⟩ := ab_ite h
  refine ⟨?_, hi⟩
  refine gj_Mi_of RX10 [some (.ref x0), some (.int x1), none, none] (by decide +kernel) rfl (Nat.le_of_ble_eq_true rfl) rfl (fun p l e s m args below meth c D ad tc A C => ?_)
  refine gj_aload_n C (pc' := 1) (i := 0) rfl dX10_wide_0 rfl rfl ?_
  refine gj_iload_n C (pc' := 2) (i := 1) rfl dX10_wide_1 rfl rfl ?_
  refine gj_callVv C (pc' := 5) rfl dX10_wide_2 wm_X10_166 uX10_lies h (kX10_lies _ _ _) (by omega) rfl rfl (Nat.le_of_ble_eq_true rfl) (fun w1 h => ?_)
  refine gj_iconst C (pc' := 6) (v := 0) rfl dX10_wide_5 (by decide) ?_
  refine gj_istore_n C (pc' := 7) (i := 2) (lv' := [_, _, _, _]) rfl dX10_wide_6 rfl (by decide) rfl rfl ?_
  refine gj_bipush C (pc' := 9) (v := 15) rfl dX10_wide_7 (by decide) ?_
  refine gj_istore_n C (pc' := 10) (i := 3) (lv' := [_, _, _, _]) rfl dX10_wide_9 rfl (by decide) rfl rfl ?_
  refine gj_drop (lv' := [some _, none, some _, some _]) (And.intro rfl (And.intro rfl (And.intro rfl True.intro))) ?_
  exact kX10_wide_10 C h
set_option maxHeartbeats 4000000 in
set_option maxRecDepth 100000 in
theorem kX10_widest : ∀ (x0 : Nat) (x1 : Int32) (w : ab_W) (r : Int32) (w1 : ab_W), sX10_widest x0 x1 w = some (r, w1) → gj_Mi yX10_widest cX10_widest 2 (some .int) 1 [.ref x0, .int x1] w r w1 ∧ ab_is w 10 x0 = true := by
  intro x0 x1 w r w1 h
  unfold sX10_widest at h
  obtain ⟨hi, h⟩ := ab_ite h
  refine ⟨?_, hi⟩
  refine gj_Mi_of RX10 [some (.ref x0), some (.int x1)] (by decide +kernel) rfl (Nat.le_of_ble_eq_true rfl) rfl (fun p l e s m args below meth c D ad tc A C => ?_)
  refine gj_aload_n C (pc' := 1) (i := 0) rfl dX10_widest_0 rfl rfl ?_
  refine gj_iload_n C (pc' := 2) (i := 1) rfl dX10_widest_1 rfl rfl ?_
  refine gj_iconst C (pc' := 3) (v := 0) rfl dX10_widest_2 (by decide) ?_
  refine gj_callVi C (pc' := 6) rfl dX10_widest_3 wm_X10_65 uX10_its h (kX10_its _ _ _ _) (by omega) rfl rfl (Nat.le_of_ble_eq_true rfl) (fun v1 w2 h => ?_)
  refine gj_tab C (tgt := 44) dX10_widest_6 1 0 (by decide) (by decide) rfl (by decide) h (fun h => ?_) (fun n6_0 h => ?_)
  · refine gj_iconst C (pc' := 45) (v := 4) rfl dX10_widest_44 (by decide) ?_
    refine gj_aload_n C (pc' := 46) (i := 0) rfl dX10_widest_45 rfl rfl ?_
    refine gj_iload_n C (pc' := 47) (i := 1) rfl dX10_widest_46 rfl rfl ?_
    refine gj_iconst C (pc' := 48) (v := 1) rfl dX10_widest_47 (by decide) ?_
    refine gj_callVi C (pc' := 51) rfl dX10_widest_48 wm_X10_65 uX10_its h (kX10_its _ _ _ _) (by omega) rfl rfl (Nat.le_of_ble_eq_true rfl) (fun v3 w4 h => ?_)
    refine gj_iconst C (pc' := 52) (v := 3) rfl dX10_widest_51 (by decide) ?_
    refine gj_irem C (pc' := 53) rfl dX10_widest_52 h (fun v5 h => ?_)
    refine gj_iadd C (pc' := 54) rfl dX10_widest_53 ?_
    exact gj_iret C dX10_widest_54 h
  refine gj_tab C (tgt := 55) dX10_widest_6 2 1 (by decide) (by decide) rfl (by decide) h (fun h => ?_) (fun n6_1 h => ?_)
  · refine gj_iconst C (pc' := 56) (v := 5) rfl dX10_widest_55 (by decide) ?_
    exact gj_iret C dX10_widest_56 h
  refine gj_tab C (tgt := 57) dX10_widest_6 3 2 (by decide) (by decide) rfl (by decide) h (fun h => ?_) (fun n6_2 h => ?_)
  · refine gj_iconst C (pc' := 58) (v := 3) rfl dX10_widest_57 (by decide) ?_
    exact gj_iret C dX10_widest_58 h
  refine gj_tab C (tgt := 44) dX10_widest_6 4 3 (by decide) (by decide) rfl (by decide) h (fun h => ?_) (fun n6_3 h => ?_)
  · refine gj_iconst C (pc' := 45) (v := 4) rfl dX10_widest_44 (by decide) ?_
    refine gj_aload_n C (pc' := 46) (i := 0) rfl dX10_widest_45 rfl rfl ?_
    refine gj_iload_n C (pc' := 47) (i := 1) rfl dX10_widest_46 rfl rfl ?_
    refine gj_iconst C (pc' := 48) (v := 1) rfl dX10_widest_47 (by decide) ?_
    refine gj_callVi C (pc' := 51) rfl dX10_widest_48 wm_X10_65 uX10_its h (kX10_its _ _ _ _) (by omega) rfl rfl (Nat.le_of_ble_eq_true rfl) (fun v6 w7 h => ?_)
    refine gj_iconst C (pc' := 52) (v := 3) rfl dX10_widest_51 (by decide) ?_
    refine gj_irem C (pc' := 53) rfl dX10_widest_52 h (fun v8 h => ?_)
    refine gj_iadd C (pc' := 54) rfl dX10_widest_53 ?_
    exact gj_iret C dX10_widest_54 h
  refine gj_tab C (tgt := 55) dX10_widest_6 5 4 (by decide) (by decide) rfl (by decide) h (fun h => ?_) (fun n6_4 h => ?_)
  · refine gj_iconst C (pc' := 56) (v := 5) rfl dX10_widest_55 (by decide) ?_
    exact gj_iret C dX10_widest_56 h
  refine gj_tab C (tgt := 59) dX10_widest_6 6 5 (by decide) (by decide) rfl (by decide) h (fun h => ?_) (fun n6_5 h => ?_)
  · refine gj_bipush C (pc' := 61) (v := 6) rfl dX10_widest_59 (by decide) ?_
    exact gj_iret C dX10_widest_61 h
  refine gj_tabD C (tgt := 62) dX10_widest_6 (by decide) (gj_tout _ 1 6 (fun j hj => match j, hj with | 0, _ => lv_neT n6_0 (by decide) | 1, _ => lv_neT n6_1 (by decide) | 2, _ => lv_neT n6_2 (by decide) | 3, _ => lv_neT n6_3 (by decide) | 4, _ => lv_neT n6_4 (by decide) | 5, _ => lv_neT n6_5 (by decide) | j + 6, hj => absurd hj (by omega))) ?_
  refine gj_iconst C (pc' := 63) (v := 4) rfl dX10_widest_62 (by decide) ?_
  exact gj_iret C dX10_widest_63 h
set_option maxHeartbeats 4000000 in
set_option maxRecDepth 100000 in
theorem kX10_isAlive : ∀ (x0 : Nat) (x1 : Int32) (x2 : Int32) (w : ab_W) (r : Int32) (w1 : ab_W), sX10_isAlive x0 x1 x2 w = some (r, w1) → gj_Mi yX10_isAlive cX10_isAlive 3 (some .boolean) 2 [.ref x0, .int x1, .int x2] w r w1 ∧ ab_is w 10 x0 = true := by
  intro x0 x1 x2 w r w1 h
  unfold sX10_isAlive at h
  obtain ⟨hi, h⟩ := ab_ite h
  refine ⟨?_, hi⟩
  refine gj_Mi_of RX10 [some (.ref x0), some (.int x1), some (.int x2)] (by decide +kernel) rfl (Nat.le_of_ble_eq_true rfl) rfl (fun p l e s m args below meth c D ad tc A C => ?_)
  refine gj_iload_n C (pc' := 1) (i := 2) rfl dX10_isAlive_0 rfl rfl ?_
  refine gj_if_eq C (pc' := 4) (tgt := 21) rfl dX10_isAlive_1 rfl h (fun h => ?_) (fun h => ?_)
  · refine gj_iconst C (pc' := 22) (v := 0) rfl dX10_isAlive_21 (by decide) ?_
    exact gj_zret C dX10_isAlive_22 h
  · refine gj_aload_n C (pc' := 5) (i := 0) rfl dX10_isAlive_4 rfl rfl ?_
    refine gj_iload_n C (pc' := 6) (i := 2) rfl dX10_isAlive_5 rfl rfl ?_
    refine gj_callVi C (pc' := 9) rfl dX10_isAlive_6 wm_X10_69 uX10_wide h (kX10_wide _ _ _) (by omega) rfl rfl (Nat.le_of_ble_eq_true rfl) (fun v1 w2 h => ?_)
    refine gj_aload_n C (pc' := 10) (i := 0) rfl dX10_isAlive_9 rfl rfl ?_
    refine gj_iload_n C (pc' := 11) (i := 1) rfl dX10_isAlive_10 rfl rfl ?_
    refine gj_callVi C (pc' := 14) rfl dX10_isAlive_11 wm_X10_170 uX10_widest h (kX10_widest _ _ _) (by omega) rfl rfl (Nat.le_of_ble_eq_true rfl) (fun v3 w4 h => ?_)
    refine gj_icmp_gt C (pc' := 17) (tgt := 21) rfl dX10_isAlive_14 rfl h (fun h => ?_) (fun h => ?_)
    · refine gj_iconst C (pc' := 22) (v := 0) rfl dX10_isAlive_21 (by decide) ?_
      exact gj_zret C dX10_isAlive_22 h
    · refine gj_iconst C (pc' := 18) (v := 1) rfl dX10_isAlive_17 (by decide) ?_
      refine gj_goto C (tgt := 22) dX10_isAlive_18 rfl ?_
      exact gj_zret C dX10_isAlive_22 h
set_option maxHeartbeats 4000000 in
set_option maxRecDepth 100000 in
theorem kX10_stiff : ∀ (x0 : Nat) (x1 : Int32) (w : ab_W) (r : Int32) (w1 : ab_W), sX10_stiff x0 x1 w = some (r, w1) → gj_Mi yX10_stiff cX10_stiff 3 (some .int) 1 [.ref x0, .int x1] w r w1 ∧ ab_is w 10 x0 = true := by
  intro x0 x1 w r w1 h
  unfold sX10_stiff at h
  obtain ⟨hi, h⟩ := ab_ite h
  refine ⟨?_, hi⟩
  refine gj_Mi_of RX10 [some (.ref x0), some (.int x1), none] (by decide +kernel) rfl (Nat.le_of_ble_eq_true rfl) rfl (fun p l e s m args below meth c D ad tc A C => ?_)
  refine gj_aload_n C (pc' := 1) (i := 0) rfl dX10_stiff_0 rfl rfl ?_
  refine gj_iload_n C (pc' := 2) (i := 1) rfl dX10_stiff_1 rfl rfl ?_
  refine gj_iconst C (pc' := 3) (v := 1) rfl dX10_stiff_2 (by decide) ?_
  refine gj_callVi C (pc' := 6) rfl dX10_stiff_3 wm_X10_65 uX10_its h (kX10_its _ _ _ _) (by omega) rfl rfl (Nat.le_of_ble_eq_true rfl) (fun v1 w2 h => ?_)
  refine gj_istore_n C (pc' := 7) (i := 2) (lv' := [_, _, _]) rfl dX10_stiff_6 rfl (by decide) rfl rfl ?_
  refine gj_aload_n C (pc' := 8) (i := 0) rfl dX10_stiff_7 rfl rfl ?_
  refine gj_iload_n C (pc' := 9) (i := 1) rfl dX10_stiff_8 rfl rfl ?_
  refine gj_iconst C (pc' := 10) (v := 0) rfl dX10_stiff_9 (by decide) ?_
  refine gj_callVi C (pc' := 13) rfl dX10_stiff_10 wm_X10_65 uX10_its h (kX10_its _ _ _ _) (by omega) rfl rfl (Nat.le_of_ble_eq_true rfl) (fun v3 w4 h => ?_)
  refine gj_tab C (tgt := 52) dX10_stiff_13 1 0 (by decide) (by decide) rfl (by decide) h (fun h => ?_) (fun n13_0 h => ?_)
  · refine gj_bipush C (pc' := 54) (v := 8) rfl dX10_stiff_52 (by decide) ?_
    refine gj_iload_n C (pc' := 55) (i := 2) rfl dX10_stiff_54 rfl rfl ?_
    refine gj_iconst C (pc' := 56) (v := 4) rfl dX10_stiff_55 (by decide) ?_
    refine gj_irem C (pc' := 57) rfl dX10_stiff_56 h (fun v5 h => ?_)
    refine gj_isub C (pc' := 58) rfl dX10_stiff_57 ?_
    exact gj_iret C dX10_stiff_58 h
  refine gj_tab C (tgt := 66) dX10_stiff_13 2 1 (by decide) (by decide) rfl (by decide) h (fun h => ?_) (fun n13_1 h => ?_)
  · refine gj_iconst C (pc' := 67) (v := 4) rfl dX10_stiff_66 (by decide) ?_
    exact gj_iret C dX10_stiff_67 h
  refine gj_tab C (tgt := 74) dX10_stiff_13 3 2 (by decide) (by decide) rfl (by decide) h (fun h => ?_) (fun n13_2 h => ?_)
  · refine gj_bipush C (pc' := 76) (v := 6) rfl dX10_stiff_74 (by decide) ?_
    exact gj_iret C dX10_stiff_76 h
  refine gj_tab C (tgt := 59) dX10_stiff_13 4 3 (by decide) (by decide) rfl (by decide) h (fun h => ?_) (fun n13_3 h => ?_)
  · refine gj_bipush C (pc' := 61) (v := 7) rfl dX10_stiff_59 (by decide) ?_
    refine gj_iload_n C (pc' := 62) (i := 2) rfl dX10_stiff_61 rfl rfl ?_
    refine gj_iconst C (pc' := 63) (v := 4) rfl dX10_stiff_62 (by decide) ?_
    refine gj_irem C (pc' := 64) rfl dX10_stiff_63 h (fun v6 h => ?_)
    refine gj_isub C (pc' := 65) rfl dX10_stiff_64 ?_
    exact gj_iret C dX10_stiff_65 h
  refine gj_tab C (tgt := 68) dX10_stiff_13 5 4 (by decide) (by decide) rfl (by decide) h (fun h => ?_) (fun n13_4 h => ?_)
  · refine gj_iconst C (pc' := 69) (v := 4) rfl dX10_stiff_68 (by decide) ?_
    refine gj_iload_n C (pc' := 70) (i := 2) rfl dX10_stiff_69 rfl rfl ?_
    refine gj_iconst C (pc' := 71) (v := 2) rfl dX10_stiff_70 (by decide) ?_
    refine gj_irem C (pc' := 72) rfl dX10_stiff_71 h (fun v7 h => ?_)
    refine gj_iadd C (pc' := 73) rfl dX10_stiff_72 ?_
    exact gj_iret C dX10_stiff_73 h
  refine gj_tab C (tgt := 77) dX10_stiff_13 6 5 (by decide) (by decide) rfl (by decide) h (fun h => ?_) (fun n13_5 h => ?_)
  · refine gj_iconst C (pc' := 78) (v := 3) rfl dX10_stiff_77 (by decide) ?_
    exact gj_iret C dX10_stiff_78 h
  refine gj_tabD C (tgt := 79) dX10_stiff_13 (by decide) (gj_tout _ 1 6 (fun j hj => match j, hj with | 0, _ => lv_neT n13_0 (by decide) | 1, _ => lv_neT n13_1 (by decide) | 2, _ => lv_neT n13_2 (by decide) | 3, _ => lv_neT n13_3 (by decide) | 4, _ => lv_neT n13_4 (by decide) | 5, _ => lv_neT n13_5 (by decide) | j + 6, hj => absurd hj (by omega))) ?_
  refine gj_bipush C (pc' := 81) (v := 8) rfl dX10_stiff_79 (by decide) ?_
  exact gj_iret C dX10_stiff_81 h
set_option maxHeartbeats 4000000 in
set_option maxRecDepth 100000 in
theorem kX10_thick_35 {p : Program} {l : Launch} {e : Env} {s : State} {m : MethodId} {args : Array Value} {below : List Frame} {meth : Method} {c : Code} {D : va_G} {ad : Nat → Nat} {tc : Nat → ClassId} {A : Nat → Prop} (C : gj_C p s m args meth c D ad tc A cX10_thick 4 (some .int) RX10) {r : Int32} {w1 : ab_W} {k9 : Nat → Int32 → Int32 → ab_W → Option (Int32 × ab_W)} (hk9 : ∀ {x0 : Nat} {x2 : Int32} {x3 : Int32} {w : ab_W}, k9 x0 x2 x3 w = some (r, w1) → gj_G p l e (gj_R 1) s m args below meth c D ad tc A 4 (gj_Qi D ad tc A below args s r w1) 9 [some (.ref x0), none, some (.int x2), some (.int x3)] [] w) {x0 : Nat} {x3 : Int32} {p0 : Int32} {w : ab_W} (h : sX10_thick_35 k9 x0 x3 p0 w = some (r, w1)) : gj_G p l e (gj_R 1) s m args below meth c D ad tc A 4 (gj_Qi D ad tc A below args s r w1) 35 [some (.ref x0), none, none, some (.int x3)] [.int p0] w := by
  unfold sX10_thick_35 at h
  refine gj_istore_n C (pc' := 36) (i := 2) (lv' := [_, _, _, _]) rfl dX10_thick_35 rfl (by decide) rfl rfl ?_
  refine gj_iinc C (pc' := 39) (i := 3) (v := _ + 1) (lv' := [_, _, _, _]) rfl dX10_thick_36 rfl rfl (by decide) rfl rfl ?_
  refine gj_goto C (tgt := 9) dX10_thick_39 rfl ?_
  refine gj_drop (lv' := [some _, none, some _, some _]) (And.intro rfl (And.intro rfl (And.intro rfl True.intro))) ?_
  exact hk9 h
set_option maxHeartbeats 4000000 in
set_option maxRecDepth 100000 in
theorem kX10_thick_9 {p : Program} {l : Launch} {e : Env} {s : State} {m : MethodId} {args : Array Value} {below : List Frame} {meth : Method} {c : Code} {D : va_G} {ad : Nat → Nat} {tc : Nat → ClassId} {A : Nat → Prop} (C : gj_C p s m args meth c D ad tc A cX10_thick 4 (some .int) RX10) {r : Int32} {w1 : ab_W} : ∀ {n : Nat} {x0 : Nat} {x2 : Int32} {x3 : Int32} {w : ab_W}, sX10_thick_9 n x0 x2 x3 w = some (r, w1) → gj_G p l e (gj_R 1) s m args below meth c D ad tc A 4 (gj_Qi D ad tc A below args s r w1) 9 [some (.ref x0), none, some (.int x2), some (.int x3)] [] w := by
  intro n
  induction n with
  | zero =>
    intros
    rename_i h
    cases h
  | succ n ih =>
    intro x0 x2 x3 w h
    rw [sX10_thick_9] at h
    refine gj_iload_n C (pc' := 10) (i := 3) rfl dX10_thick_9 rfl rfl ?_
    refine gj_bipush C (pc' := 12) (v := 16) rfl dX10_thick_10 (by decide) ?_
    refine gj_icmp_ge C (pc' := 15) (tgt := 42) rfl dX10_thick_12 rfl h (fun h => ?_) (fun h => ?_)
    · refine gj_aload_n C (pc' := 16) (i := 0) rfl dX10_thick_15 rfl rfl ?_
      refine gj_getR C (pc' := 19) rfl dX10_thick_16 wf_X10_25 h (fun v1 h => ?_)
      refine gj_iload_n C (pc' := 20) (i := 3) rfl dX10_thick_19 rfl rfl ?_
      refine gj_iald C (pc' := 21) rfl dX10_thick_20 h (fun v2 h => ?_)
      refine gj_iload_n C (pc' := 22) (i := 2) rfl dX10_thick_21 rfl rfl ?_
      refine gj_icmp_le C (pc' := 25) (tgt := 34) rfl dX10_thick_22 rfl h (fun h => ?_) (fun h => ?_)
      · refine gj_aload_n C (pc' := 26) (i := 0) rfl dX10_thick_25 rfl rfl ?_
        refine gj_getR C (pc' := 29) rfl dX10_thick_26 wf_X10_25 h (fun v3 h => ?_)
        refine gj_iload_n C (pc' := 30) (i := 3) rfl dX10_thick_29 rfl rfl ?_
        refine gj_iald C (pc' := 31) rfl dX10_thick_30 h (fun v4 h => ?_)
        refine gj_goto C (tgt := 35) dX10_thick_31 rfl ?_
        refine gj_drop (lv' := [some _, none, none, some _]) (And.intro rfl (And.intro rfl True.intro)) ?_
        exact kX10_thick_35 C (fun h => ih h) h
      · refine gj_iload_n C (pc' := 35) (i := 2) rfl dX10_thick_34 rfl rfl ?_
        refine gj_drop (lv' := [some _, none, none, some _]) (And.intro rfl (And.intro rfl True.intro)) ?_
        exact kX10_thick_35 C (fun h => ih h) h
    · refine gj_iload_n C (pc' := 43) (i := 2) rfl dX10_thick_42 rfl rfl ?_
      exact gj_iret C dX10_thick_43 h
set_option maxHeartbeats 4000000 in
set_option maxRecDepth 100000 in
theorem kX10_thick : ∀ (x0 : Nat) (x1 : Int32) (w : ab_W) (r : Int32) (w1 : ab_W), sX10_thick x0 x1 w = some (r, w1) → gj_Mi yX10_thick cX10_thick 4 (some .int) 1 [.ref x0, .int x1] w r w1 ∧ ab_is w 10 x0 = true := by
  intro x0 x1 w r w1 h
  unfold sX10_thick at h
  obtain ⟨hi, h⟩ := ab_ite h
  refine ⟨?_, hi⟩
  refine gj_Mi_of RX10 [some (.ref x0), some (.int x1), none, none] (by decide +kernel) rfl (Nat.le_of_ble_eq_true rfl) rfl (fun p l e s m args below meth c D ad tc A C => ?_)
  refine gj_aload_n C (pc' := 1) (i := 0) rfl dX10_thick_0 rfl rfl ?_
  refine gj_iload_n C (pc' := 2) (i := 1) rfl dX10_thick_1 rfl rfl ?_
  refine gj_callVv C (pc' := 5) rfl dX10_thick_2 wm_X10_166 uX10_lies h (kX10_lies _ _ _) (by omega) rfl rfl (Nat.le_of_ble_eq_true rfl) (fun w1 h => ?_)
  refine gj_iconst C (pc' := 6) (v := 0) rfl dX10_thick_5 (by decide) ?_
  refine gj_istore_n C (pc' := 7) (i := 2) (lv' := [_, _, _, _]) rfl dX10_thick_6 rfl (by decide) rfl rfl ?_
  refine gj_iconst C (pc' := 8) (v := 0) rfl dX10_thick_7 (by decide) ?_
  refine gj_istore_n C (pc' := 9) (i := 3) (lv' := [_, _, _, _]) rfl dX10_thick_8 rfl (by decide) rfl rfl ?_
  refine gj_drop (lv' := [some _, none, some _, some _]) (And.intro rfl (And.intro rfl (And.intro rfl True.intro))) ?_
  exact kX10_thick_9 C h
