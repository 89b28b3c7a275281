set_option maxHeartbeats 4000000 in
set_option maxRecDepth 100000 in
theorem kX7_farGone_2 {p : Program} {l : Launch} {e : Env} {s : State} {m : MethodId} {args : Array Value} {below : List Frame} {meth : Method} {c : Code} {D : va_G} {ad : Nat → Nat} {tc : Nat → ClassId} {A : Nat → Prop} (C : gj_C p s m args meth c D ad tc A cX7_farGone 4 (some .int) RX7) {r : Int32} {w1 : ab_W} : ∀ {n : Nat} {x0 : Nat} {x1 : Int32} {x2 : Int32} {x3 : Int32} {w : ab_W}, sX7_farGone_2 n x0 x1 x2 x3 w = some (r, w1) → gj_G p l e (gj_R 2) s m args below meth c D ad tc A 4 (gj_Qi D ad tc A below args s r w1) 2 [some (.ref x0), some (.int x1), some (.int x2), some (.int x3)] [] w := by
  intro n
  induction n with
  | zero =>
    intros
    rename_i h
    cases h
  | succ n ih =>
    intro x0 x1 x2 x3 w h
    rw [sX7_farGone_2] at h
    refine gj_iload_n C (pc' := 3) (i := 3) rfl dX7_farGone_2 rfl rfl ?_
    refine gj_iload_n C (pc' := 4) (i := 2) rfl dX7_farGone_3 rfl rfl ?_
    refine gj_icmp_ge C (pc' := 7) (tgt := 23) rfl dX7_farGone_4 rfl h (fun h => ?_) (fun h => ?_)
    · refine gj_aload_n C (pc' := 8) (i := 0) rfl dX7_farGone_7 rfl rfl ?_
      refine gj_getR C (pc' := 11) rfl dX7_farGone_8 wf_X7_12 h (fun v1 h => ?_)
      refine gj_iload_n C (pc' := 12) (i := 1) rfl dX7_farGone_11 rfl rfl ?_
      refine gj_iload_n C (pc' := 13) (i := 3) rfl dX7_farGone_12 rfl rfl ?_
      refine gj_iadd C (pc' := 14) rfl dX7_farGone_13 ?_
      refine gj_callVv C (pc' := 17) rfl dX7_farGone_14 wm_X7_109 uX1_go h (kX1_go _ _ _) (by omega) rfl rfl (Nat.le_of_ble_eq_true rfl) (fun w2 h => ?_)
      refine gj_iinc C (pc' := 20) (i := 3) (v := _ + 1) (lv' := [_, _, _, _]) rfl dX7_farGone_17 rfl rfl (by decide) rfl rfl ?_
      refine gj_goto C (tgt := 2) dX7_farGone_20 rfl ?_
      refine gj_drop (lv' := [some _, some _, some _, some _]) (And.intro rfl (And.intro rfl (And.intro rfl (And.intro rfl True.intro)))) ?_
      exact ih h
    · refine gj_aload_n C (pc' := 24) (i := 0) rfl dX7_farGone_23 rfl rfl ?_
      refine gj_getR C (pc' := 27) rfl dX7_farGone_24 wf_X7_12 h (fun v3 h => ?_)
      refine gj_getI C (pc' := 30) rfl dX7_farGone_27 wf_X7_57 h (fun v4 h => ?_)
      exact gj_iret C dX7_farGone_30 h
set_option maxHeartbeats 4000000 in
set_option maxRecDepth 100000 in
theorem kX7_farGone : ∀ (x0 : Nat) (x1 : Int32) (x2 : Int32) (w : ab_W) (r : Int32) (w1 : ab_W), sX7_farGone x0 x1 x2 w = some (r, w1) → gj_Mi yX7_farGone cX7_farGone 4 (some .int) 2 [.ref x0, .int x1, .int x2] w r w1 ∧ ab_is w 7 x0 = true := by
  intro x0 x1 x2 w r w1 h
  unfold sX7_farGone at h
  obtain ⟨hi, h⟩ := ab_ite h
  refine ⟨?_, hi⟩
  refine gj_Mi_of RX7 [some (.ref x0), some (.int x1), some (.int x2), none] (by decide +kernel) rfl (Nat.le_of_ble_eq_true rfl) rfl (fun p l e s m args below meth c D ad tc A C => ?_)
  refine gj_iconst C (pc' := 1) (v := 0) rfl dX7_farGone_0 (by decide) ?_
  refine gj_istore_n C (pc' := 2) (i := 3) (lv' := [_, _, _, _]) rfl dX7_farGone_1 rfl (by decide) rfl rfl ?_
  refine gj_drop (lv' := [some _, some _, some _, some _]) (And.intro rfl (And.intro rfl (And.intro rfl (And.intro rfl True.intro)))) ?_
  exact kX7_farGone_2 C h
set_option maxHeartbeats 4000000 in
set_option maxRecDepth 100000 in
theorem kX7_farBehind : ∀ (x0 : Nat) (x1 : Nat) (x2 : Nat) (x3 : Int32) (x4 : Int32) (x5 : Int32) (w : ab_W) (r : Int32) (w1 : ab_W), sX7_farBehind x0 x1 x2 x3 x4 x5 w = some (r, w1) → gj_Mi yX7_farBehind cX7_farBehind 7 (some .int) 4 [.ref x0, .ref x1, .ref x2, .int x3, .int x4, .int x5] w r w1 ∧ ab_is w 7 x0 = true := by
  intro x0 x1 x2 x3 x4 x5 w r w1 h
  unfold sX7_farBehind at h
  obtain ⟨hi, h⟩ := ab_ite h
  refine ⟨?_, hi⟩
  refine gj_Mi_of RX7 [some (.ref x0), some (.ref x1), some (.ref x2), some (.int x3), some (.int x4), some (.int x5), none] (by decide +kernel) rfl (Nat.le_of_ble_eq_true rfl) rfl (fun p l e s m args below meth c D ad tc A C => ?_)
  refine gj_aload_n C (pc' := 1) (i := 1) rfl dX7_farBehind_0 rfl rfl ?_
  refine gj_getR C (pc' := 4) rfl dX7_farBehind_1 wf_X7_40 h (fun v1 h => ?_)
  refine gj_iload_n C (pc' := 5) (i := 3) rfl dX7_farBehind_4 rfl rfl ?_
  refine gj_rald C (pc' := 6) (t := 1) rfl dX7_farBehind_5 rfl h (fun v2 h => ?_)
  refine gj_astore C (pc' := 8) (i := 6) (lv' := [_, _, _, _, _, _, _]) rfl dX7_farBehind_6 (by decide) rfl rfl ?_
  refine gj_aload_n C (pc' := 9) (i := 0) rfl dX7_farBehind_8 rfl rfl ?_
  refine gj_getR C (pc' := 12) rfl dX7_farBehind_9 wf_X7_12 h (fun v3 h => ?_)
  refine gj_aload C (pc' := 14) (i := 6) rfl dX7_farBehind_12 rfl ?_
  refine gj_aload C (pc' := 16) (i := 6) rfl dX7_farBehind_14 rfl ?_
  refine gj_getI C (pc' := 19) rfl dX7_farBehind_16 wf_X7_44 h (fun v4 h => ?_)
  refine gj_callVv C (pc' := 22) rfl dX7_farBehind_19 wm_X7_64 uX1_begin h (kX1_begin _ _ _ _) (by omega) rfl rfl (Nat.le_of_ble_eq_true rfl) (fun w5 h => ?_)
  refine gj_aload_n C (pc' := 23) (i := 0) rfl dX7_farBehind_22 rfl rfl ?_
  refine gj_aload_n C (pc' := 24) (i := 1) rfl dX7_farBehind_23 rfl rfl ?_
  refine gj_aload_n C (pc' := 25) (i := 2) rfl dX7_farBehind_24 rfl rfl ?_
  refine gj_aload C (pc' := 27) (i := 6) rfl dX7_farBehind_25 rfl ?_
  refine gj_getI C (pc' := 30) rfl dX7_farBehind_27 wf_X7_68 h (fun v6 h => ?_)
  refine gj_aload C (pc' := 32) (i := 6) rfl dX7_farBehind_30 rfl ?_
  refine gj_getI C (pc' := 35) rfl dX7_farBehind_32 wf_X7_71 h (fun v7 h => ?_)
  refine gj_iload C (pc' := 37) (i := 4) rfl dX7_farBehind_35 rfl ?_
  refine gj_callVv C (pc' := 40) rfl dX7_farBehind_37 wm_X7_77 uX7_pace h (kX7_pace _ _ _ _ _ _ _) (by omega) rfl rfl (Nat.le_of_ble_eq_true rfl) (fun w8 h => ?_)
  refine gj_aload_n C (pc' := 41) (i := 0) rfl dX7_farBehind_40 rfl rfl ?_
  refine gj_aload_n C (pc' := 42) (i := 1) rfl dX7_farBehind_41 rfl rfl ?_
  refine gj_getI C (pc' := 45) rfl dX7_farBehind_42 wf_X7_61 h (fun v9 h => ?_)
  refine gj_iload C (pc' := 47) (i := 5) rfl dX7_farBehind_45 rfl ?_
  refine gj_callVi C (pc' := 50) rfl dX7_farBehind_47 wm_X7_105 uX7_farGone h (kX7_farGone _ _ _ _) (by omega) rfl rfl (Nat.le_of_ble_eq_true rfl) (fun v10 w11 h => ?_)
  exact gj_iret C dX7_farBehind_50 h
set_option maxHeartbeats 4000000 in
set_option maxRecDepth 100000 in
theorem kX9_then_30 {p : Program} {l : Launch} {e : Env} {s : State} {m : MethodId} {args : Array Value} {below : List Frame} {meth : Method} {c : Code} {D : va_G} {ad : Nat → Nat} {tc : Nat → ClassId} {A : Nat → Prop} (C : gj_C p s m args meth c D ad tc A cX9_then 4 (some .int) RX9) {r : Int32} {w1 : ab_W} {x0 : Nat} {w : ab_W} (h : sX9_then_30 x0 w = some (r, w1)) : gj_G p l e (gj_R 6) s m args below meth c D ad tc A 4 (gj_Qi D ad tc A below args s r w1) 30 [some (.ref x0), none, none, none] [] w := by
  unfold sX9_then_30 at h
  refine gj_aload_n C (pc' := 31) (i := 0) rfl dX9_then_30 rfl rfl ?_
  refine gj_iconst C (pc' := 32) (v := 1) rfl dX9_then_31 (by decide) ?_
  refine gj_callVi C (pc' := 35) rfl dX9_then_32 wm_X9_66 uX9_fail h (kX9_fail _ _ _) (by omega) rfl rfl (Nat.le_of_ble_eq_true rfl) (fun v1 w2 h => ?_)
  exact gj_iret C dX9_then_35 h
set_option maxHeartbeats 4000000 in
set_option maxRecDepth 100000 in
theorem kX9_then : ∀ (x0 : Nat) (x1 : Int32) (x2 : Int32) (x3 : Int32) (w : ab_W) (r : Int32) (w1 : ab_W), sX9_then x0 x1 x2 x3 w = some (r, w1) → gj_Mi yX9_then cX9_then 4 (some .int) 6 [.ref x0, .int x1, .int x2, .int x3] w r w1 ∧ ab_is w 9 x0 = true := by
  intro x0 x1 x2 x3 w r w1 h
  unfold sX9_then at h
  obtain ⟨hi, h⟩ := ab_ite h
  refine ⟨?_, hi⟩
  refine gj_Mi_of RX9 [some (.ref x0), some (.int x1), some (.int x2), some (.int x3)] (by decide +kernel) rfl (Nat.le_of_ble_eq_true rfl) rfl (fun p l e s m args below meth c D ad tc A C => ?_)
  refine gj_iload_n C (pc' := 1) (i := 1) rfl dX9_then_0 rfl rfl ?_
  refine gj_iconst C (pc' := 2) (v := 0) rfl dX9_then_1 (by decide) ?_
  refine gj_bipush C (pc' := 4) (v := 60) rfl dX9_then_2 (by decide) ?_
  refine gj_callSi C (pc' := 7) rfl dX9_then_4 wm_X9_62 uX9_within h (kX9_within _ _ _ _) (by omega) rfl rfl (Nat.le_of_ble_eq_true rfl) (fun v1 w2 h => ?_)
  refine gj_if_eq C (pc' := 10) (tgt := 30) rfl dX9_then_7 rfl h (fun h => ?_) (fun h => ?_)
  · refine gj_drop (lv' := [some _, none, none, none]) (And.intro rfl True.intro) ?_
    exact kX9_then_30 C h
  · refine gj_aload_n C (pc' := 11) (i := 0) rfl dX9_then_10 rfl rfl ?_
    refine gj_getR C (pc' := 14) rfl dX9_then_11 wf_X9_30 h (fun v3 h => ?_)
    refine gj_iload_n C (pc' := 15) (i := 2) rfl dX9_then_14 rfl rfl ?_
    refine gj_callVi C (pc' := 18) rfl dX9_then_15 wm_X9_77 uX0_has h (kX0_has _ _ _) (by omega) rfl rfl (Nat.le_of_ble_eq_true rfl) (fun v4 w5 h => ?_)
    refine gj_if_eq C (pc' := 21) (tgt := 30) rfl dX9_then_18 rfl h (fun h => ?_) (fun h => ?_)
    · refine gj_drop (lv' := [some _, none, none, none]) (And.intro rfl True.intro) ?_
      exact kX9_then_30 C h
    · refine gj_iload_n C (pc' := 22) (i := 3) rfl dX9_then_21 rfl rfl ?_
      refine gj_iconst C (pc' := 23) (v := 0) rfl dX9_then_22 (by decide) ?_
      refine gj_iconst C (pc' := 24) (v := 1) rfl dX9_then_23 (by decide) ?_
      refine gj_callSi C (pc' := 27) rfl dX9_then_24 wm_X9_62 uX9_within h (kX9_within _ _ _ _) (by omega) rfl rfl (Nat.le_of_ble_eq_true rfl) (fun v6 w7 h => ?_)
      refine gj_if_ne C (pc' := 30) (tgt := 36) rfl dX9_then_27 rfl h (fun h => ?_) (fun h => ?_)
      · refine gj_drop (lv' := [some _, none, none, none]) (And.intro rfl True.intro) ?_
        exact kX9_then_30 C h
      · refine gj_iload_n C (pc' := 37) (i := 3) rfl dX9_then_36 rfl rfl ?_
        refine gj_if_ne C (pc' := 40) (tgt := 65) rfl dX9_then_37 rfl h (fun h => ?_) (fun h => ?_)
        · refine gj_aload_n C (pc' := 41) (i := 0) rfl dX9_then_40 rfl rfl ?_
          refine gj_getR C (pc' := 44) rfl dX9_then_41 wf_X9_40 h (fun v8 h => ?_)
          refine gj_aload_n C (pc' := 45) (i := 0) rfl dX9_then_44 rfl rfl ?_
          refine gj_getR C (pc' := 48) rfl dX9_then_45 wf_X9_30 h (fun v9 h => ?_)
          refine gj_aload_n C (pc' := 49) (i := 0) rfl dX9_then_48 rfl rfl ?_
          refine gj_getR C (pc' := 52) rfl dX9_then_49 wf_X9_23 h (fun v10 h => ?_)
          refine gj_iload_n C (pc' := 53) (i := 2) rfl dX9_then_52 rfl rfl ?_
          refine gj_aload_n C (pc' := 54) (i := 0) rfl dX9_then_53 rfl rfl ?_
          refine gj_getR C (pc' := 57) rfl dX9_then_54 wf_X9_30 h (fun v11 h => ?_)
          refine gj_getI C (pc' := 60) rfl dX9_then_57 wf_X9_123 h (fun v12 h => ?_)
          refine gj_iload_n C (pc' := 61) (i := 1) rfl dX9_then_60 rfl rfl ?_
          refine gj_callVi C (pc' := 64) rfl dX9_then_61 wm_X9_198 uX7_farBehind h (kX7_farBehind _ _ _ _ _ _ _) (by omega) rfl rfl (Nat.le_of_ble_eq_true rfl) (fun v13 w14 h => ?_)
          exact gj_iret C dX9_then_64 h
        · refine gj_aload_n C (pc' := 66) (i := 0) rfl dX9_then_65 rfl rfl ?_
          refine gj_getR C (pc' := 69) rfl dX9_then_66 wf_X9_40 h (fun v15 h => ?_)
          refine gj_aload_n C (pc' := 70) (i := 0) rfl dX9_then_69 rfl rfl ?_
          refine gj_getR C (pc' := 73) rfl dX9_then_70 wf_X9_30 h (fun v16 h => ?_)
          refine gj_aload_n C (pc' := 74) (i := 0) rfl dX9_then_73 rfl rfl ?_
          refine gj_getR C (pc' := 77) rfl dX9_then_74 wf_X9_23 h (fun v17 h => ?_)
          refine gj_iload_n C (pc' := 78) (i := 2) rfl dX9_then_77 rfl rfl ?_
          refine gj_aload_n C (pc' := 79) (i := 0) rfl dX9_then_78 rfl rfl ?_
          refine gj_getR C (pc' := 82) rfl dX9_then_79 wf_X9_30 h (fun v18 h => ?_)
          refine gj_getR C (pc' := 85) rfl dX9_then_82 wf_X9_81 h (fun v19 h => ?_)
          refine gj_iload_n C (pc' := 86) (i := 2) rfl dX9_then_85 rfl rfl ?_
          refine gj_rald C (pc' := 87) (t := 1) rfl dX9_then_86 rfl h (fun v20 h => ?_)
          refine gj_getI C (pc' := 90) rfl dX9_then_87 wf_X9_99 h (fun v21 h => ?_)
          refine gj_iload_n C (pc' := 91) (i := 1) rfl dX9_then_90 rfl rfl ?_
          refine gj_callVi C (pc' := 94) rfl dX9_then_91 wm_X9_202 uX7_debtBehind h (kX7_debtBehind _ _ _ _ _ _ _) (by omega) rfl rfl (Nat.le_of_ble_eq_true rfl) (fun v22 w23 h => ?_)
          exact gj_iret C dX9_then_94 h
set_option maxHeartbeats 4000000 in
set_option maxRecDepth 100000 in
theorem kX7_daysToGone_2 {p : Program} {l : Launch} {e : Env} {s : State} {m : MethodId} {args : Array Value} {below : List Frame} {meth : Method} {c : Code} {D : va_G} {ad : Nat → Nat} {tc : Nat → ClassId} {A : Nat → Prop} (C : gj_C p s m args meth c D ad tc A cX7_daysToGone 3 (some .int) RX7) {r : Int32} {w1 : ab_W} : ∀ {n : Nat} {x0 : Nat} {x1 : Int32} {x2 : Int32} {w : ab_W}, sX7_daysToGone_2 n x0 x1 x2 w = some (r, w1) → gj_G p l e (gj_R 2) s m args below meth c D ad tc A 3 (gj_Qi D ad tc A below args s r w1) 2 [some (.ref x0), some (.int x1), some (.int x2)] [] w := by
  intro n
  induction n with
  | zero =>
    intros
    rename_i h
    cases h
  | succ n ih =>
    intro x0 x1 x2 w h
    rw [sX7_daysToGone_2] at h
    refine gj_iload_n C (pc' := 3) (i := 2) rfl dX7_daysToGone_2 rfl rfl ?_
    refine gj_bipush C (pc' := 5) (v := 60) rfl dX7_daysToGone_3 (by decide) ?_
    refine gj_icmp_gt C (pc' := 8) (tgt := 36) rfl dX7_daysToGone_5 rfl h (fun h => ?_) (fun h => ?_)
    · refine gj_iload_n C (pc' := 37) (i := 2) rfl dX7_daysToGone_36 rfl rfl ?_
      exact gj_iret C dX7_daysToGone_37 h
    · refine gj_aload_n C (pc' := 9) (i := 0) rfl dX7_daysToGone_8 rfl rfl ?_
      refine gj_getR C (pc' := 12) rfl dX7_daysToGone_9 wf_X7_12 h (fun v1 h => ?_)
      refine gj_getI C (pc' := 15) rfl dX7_daysToGone_12 wf_X7_57 h (fun v2 h => ?_)
      refine gj_bipush C (pc' := 17) (v := 100) rfl dX7_daysToGone_15 (by decide) ?_
      refine gj_icmp_ge C (pc' := 20) (tgt := 36) rfl dX7_daysToGone_17 rfl h (fun h => ?_) (fun h => ?_)
      · refine gj_aload_n C (pc' := 21) (i := 0) rfl dX7_daysToGone_20 rfl rfl ?_
        refine gj_getR C (pc' := 24) rfl dX7_daysToGone_21 wf_X7_12 h (fun v3 h => ?_)
        refine gj_iload_n C (pc' := 25) (i := 1) rfl dX7_daysToGone_24 rfl rfl ?_
        refine gj_iload_n C (pc' := 26) (i := 2) rfl dX7_daysToGone_25 rfl rfl ?_
        refine gj_iadd C (pc' := 27) rfl dX7_daysToGone_26 ?_
        refine gj_callVv C (pc' := 30) rfl dX7_daysToGone_27 wm_X7_109 uX1_go h (kX1_go _ _ _) (by omega) rfl rfl (Nat.le_of_ble_eq_true rfl) (fun w4 h => ?_)
        refine gj_iinc C (pc' := 33) (i := 2) (v := _ + 1) (lv' := [_, _, _]) rfl dX7_daysToGone_30 rfl rfl (by decide) rfl rfl ?_
        refine gj_goto C (tgt := 2) dX7_daysToGone_33 rfl ?_
        refine gj_drop (lv' := [some _, some _, some _]) (And.intro rfl (And.intro rfl (And.intro rfl True.intro))) ?_
        exact ih h
      · refine gj_iload_n C (pc' := 37) (i := 2) rfl dX7_daysToGone_36 rfl rfl ?_
        exact gj_iret C dX7_daysToGone_37 h
set_option maxHeartbeats 4000000 in
set_option maxRecDepth 100000 in
theorem kX7_daysToGone : ∀ (x0 : Nat) (x1 : Int32) (w : ab_W) (r : Int32) (w1 : ab_W), sX7_daysToGone x0 x1 w = some (r, w1) → gj_Mi yX7_daysToGone cX7_daysToGone 3 (some .int) 2 [.ref x0, .int x1] w r w1 ∧ ab_is w 7 x0 = true := by
  intro x0 x1 w r w1 h
  unfold sX7_daysToGone at h
  obtain ⟨hi, h⟩ := ab_ite h
  refine ⟨?_, hi⟩
  refine gj_Mi_of RX7 [some (.ref x0), some (.int x1), none] (by decide +kernel) rfl (Nat.le_of_ble_eq_true rfl) rfl (fun p l e s m args below meth c D ad tc A C => ?_)
  refine gj_iconst C (pc' := 1) (v := 0) rfl dX7_daysToGone_0 (by decide) ?_
  refine gj_istore_n C (pc' := 2) (i := 2) (lv' := [_, _, _]) rfl dX7_daysToGone_1 rfl (by decide) rfl rfl ?_
  refine gj_drop (lv' := [some _, some _, some _]) (And.intro rfl (And.intro rfl (And.intro rfl True.intro))) ?_
  exact kX7_daysToGone_2 C h
set_option maxHeartbeats 4000000 in
set_option maxRecDepth 100000 in
theorem kX7_findNextGone_81 {p : Program} {l : Launch} {e : Env} {s : State} {m : MethodId} {args : Array Value} {below : List Frame} {meth : Method} {c : Code} {D : va_G} {ad : Nat → Nat} {tc : Nat → ClassId} {A : Nat → Prop} (C : gj_C p s m args meth c D ad tc A cX7_findNextGone 6 (some .boolean) RX7) {r : Int32} {w1 : ab_W} {k8 : Nat → Nat → Nat → Int32 → ab_W → Option (Int32 × ab_W)} (hk8 : ∀ {x0 : Nat} {x1 : Nat} {x2 : Nat} {x3 : Int32} {w : ab_W}, k8 x0 x1 x2 x3 w = some (r, w1) → gj_G p l e (gj_R 5) s m args below meth c D ad tc A 6 (gj_Qi D ad tc A below args s r w1) 8 [some (.ref x0), some (.ref x1), some (.ref x2), some (.int x3), none, none] [] w) {x0 : Nat} {x1 : Nat} {x2 : Nat} {x3 : Int32} {w : ab_W} (h : sX7_findNextGone_81 k8 x0 x1 x2 x3 w = some (r, w1)) : gj_G p l e (gj_R 5) s m args below meth c D ad tc A 6 (gj_Qi D ad tc A below args s r w1) 81 [some (.ref x0), some (.ref x1), some (.ref x2), some (.int x3), none, none] [] w := by
  unfold sX7_findNextGone_81 at h
  refine gj_iinc C (pc' := 84) (i := 3) (v := _ + 1) (lv' := [_, _, _, _, _, _]) rfl dX7_findNextGone_81 rfl rfl (by decide) rfl rfl ?_
  refine gj_goto C (tgt := 8) dX7_findNextGone_84 rfl ?_
  refine gj_drop (lv' := [some _, some _, some _, some _, none, none]) (And.intro rfl (And.intro rfl (And.intro rfl (And.intro rfl True.intro)))) ?_
  exact hk8 h
set_option maxHeartbeats 4000000 in
set_option maxRecDepth 100000 in
theorem kX7_findNextGone_8 {p : Program} {l : Launch} {e : Env} {s : State} {m : MethodId} {args : Array Value} {below : List Frame} {meth : Method} {c : Code} {D : va_G} {ad : Nat → Nat} {tc : Nat → ClassId} {A : Nat → Prop} (C : gj_C p s m args meth c D ad tc A cX7_findNextGone 6 (some .boolean) RX7) {r : Int32} {w1 : ab_W} : ∀ {n : Nat} {x0 : Nat} {x1 : Nat} {x2 : Nat} {x3 : Int32} {w : ab_W}, sX7_findNextGone_8 n x0 x1 x2 x3 w = some (r, w1) → gj_G p l e (gj_R 5) s m args below meth c D ad tc A 6 (gj_Qi D ad tc A below args s r w1) 8 [some (.ref x0), some (.ref x1), some (.ref x2), some (.int x3), none, none] [] w := by
  intro n
  induction n with
  | zero =>
    intros
    rename_i h
    cases h
  | succ n ih =>
    intro x0 x1 x2 x3 w h
    rw [sX7_findNextGone_8] at h
    refine gj_iload_n C (pc' := 9) (i := 3) rfl dX7_findNextGone_8 rfl rfl ?_
    refine gj_aload_n C (pc' := 10) (i := 1) rfl dX7_findNextGone_9 rfl rfl ?_
    refine gj_getI C (pc' := 13) rfl dX7_findNextGone_10 wf_X7_35 h (fun v1 h => ?_)
    refine gj_icmp_ge C (pc' := 16) (tgt := 87) rfl dX7_findNextGone_13 rfl h (fun h => ?_) (fun h => ?_)
    · refine gj_aload_n C (pc' := 17) (i := 1) rfl dX7_findNextGone_16 rfl rfl ?_
      refine gj_getR C (pc' := 20) rfl dX7_findNextGone_17 wf_X7_40 h (fun v2 h => ?_)
      refine gj_iload_n C (pc' := 21) (i := 3) rfl dX7_findNextGone_20 rfl rfl ?_
      refine gj_rald C (pc' := 22) (t := 1) rfl dX7_findNextGone_21 rfl h (fun v3 h => ?_)
      refine gj_astore C (pc' := 24) (i := 4) (lv' := [_, _, _, _, _, _]) rfl dX7_findNextGone_22 (by decide) rfl rfl ?_
      refine gj_aload C (pc' := 26) (i := 4) rfl dX7_findNextGone_24 rfl ?_
      refine gj_getI C (pc' := 29) rfl dX7_findNextGone_26 wf_X7_44 h (fun v4 h => ?_)
      refine gj_if_eq C (pc' := 32) (tgt := 81) rfl dX7_findNextGone_29 rfl h (fun h => ?_) (fun h => ?_)
      · refine gj_drop (lv' := [some _, some _, some _, some _, none, none]) (And.intro rfl (And.intro rfl (And.intro rfl (And.intro rfl True.intro)))) ?_
        exact kX7_findNextGone_81 C (fun h => ih h) h
      · refine gj_aload C (pc' := 34) (i := 4) rfl dX7_findNextGone_32 rfl ?_
        refine gj_getI C (pc' := 37) rfl dX7_findNextGone_34 wf_X7_60 h (fun v5 h => ?_)
        refine gj_bipush C (pc' := 39) (v := 100) rfl dX7_findNextGone_37 (by decide) ?_
        refine gj_icmp_ge C (pc' := 42) (tgt := 81) rfl dX7_findNextGone_39 rfl h (fun h => ?_) (fun h => ?_)
        · refine gj_aload_n C (pc' := 43) (i := 0) rfl dX7_findNextGone_42 rfl rfl ?_
          refine gj_aload_n C (pc' := 44) (i := 1) rfl dX7_findNextGone_43 rfl rfl ?_
          refine gj_aload_n C (pc' := 45) (i := 2) rfl dX7_findNextGone_44 rfl rfl ?_
          refine gj_aload C (pc' := 47) (i := 4) rfl dX7_findNextGone_45 rfl ?_
          refine gj_iconst C (pc' := 48) (v := 1) rfl dX7_findNextGone_47 (by decide) ?_
          refine gj_callVv C (pc' := 51) rfl dX7_findNextGone_48 wm_X7_96 uX7_follow h (kX7_follow _ _ _ _ _ _) (by omega) rfl rfl (Nat.le_of_ble_eq_true rfl) (fun w6 h => ?_)
          refine gj_aload_n C (pc' := 52) (i := 0) rfl dX7_findNextGone_51 rfl rfl ?_
          refine gj_aload_n C (pc' := 53) (i := 1) rfl dX7_findNextGone_52 rfl rfl ?_
          refine gj_getI C (pc' := 56) rfl dX7_findNextGone_53 wf_X7_61 h (fun v7 h => ?_)
          refine gj_callVi C (pc' := 59) rfl dX7_findNextGone_56 wm_X7_113 uX7_daysToGone h (kX7_daysToGone _ _ _) (by omega) rfl rfl (Nat.le_of_ble_eq_true rfl) (fun v8 w9 h => ?_)
          refine gj_istore C (pc' := 61) (i := 5) (lv' := [_, _, _, _, _, _]) rfl dX7_findNextGone_59 (by decide) rfl rfl ?_
          refine gj_iload C (pc' := 63) (i := 5) rfl dX7_findNextGone_61 rfl ?_
          refine gj_aload_n C (pc' := 64) (i := 0) rfl dX7_findNextGone_63 rfl rfl ?_
          refine gj_getI C (pc' := 67) rfl dX7_findNextGone_64 wf_X7_22 h (fun v10 h => ?_)
          refine gj_icmp_ge C (pc' := 70) (tgt := 81) rfl dX7_findNextGone_67 rfl h (fun h => ?_) (fun h => ?_)
          · refine gj_aload_n C (pc' := 71) (i := 0) rfl dX7_findNextGone_70 rfl rfl ?_
            refine gj_iload C (pc' := 73) (i := 5) rfl dX7_findNextGone_71 rfl ?_
            refine gj_putI C (pc' := 76) (ty := .int) rfl dX7_findNextGone_73 wf_X7_22 wp_X7_0 rfl h (fun w11 h => ?_)
            refine gj_aload_n C (pc' := 77) (i := 0) rfl dX7_findNextGone_76 rfl rfl ?_
            refine gj_iload_n C (pc' := 78) (i := 3) rfl dX7_findNextGone_77 rfl rfl ?_
            refine gj_putI C (pc' := 81) (ty := .int) rfl dX7_findNextGone_78 wf_X7_26 wp_X7_1 rfl h (fun w12 h => ?_)
            refine gj_drop (lv' := [some _, some _, some _, some _, none, none]) (And.intro rfl (And.intro rfl (And.intro rfl (And.intro rfl True.intro)))) ?_
            exact kX7_findNextGone_81 C (fun h => ih h) h
          · refine gj_drop (lv' := [some _, some _, some _, some _, none, none]) (And.intro rfl (And.intro rfl (And.intro rfl (And.intro rfl True.intro)))) ?_
            exact kX7_findNextGone_81 C (fun h => ih h) h
        · refine gj_drop (lv' := [some _, some _, some _, some _, none, none]) (And.intro rfl (And.intro rfl (And.intro rfl (And.intro rfl True.intro)))) ?_
          exact kX7_findNextGone_81 C (fun h => ih h) h
    · refine gj_aload_n C (pc' := 88) (i := 0) rfl dX7_findNextGone_87 rfl rfl ?_
      refine gj_getI C (pc' := 91) rfl dX7_findNextGone_88 wf_X7_22 h (fun v13 h => ?_)
      refine gj_bipush C (pc' := 93) (v := 60) rfl dX7_findNextGone_91 (by decide) ?_
      refine gj_icmp_gt C (pc' := 96) (tgt := 100) rfl dX7_findNextGone_93 rfl h (fun h => ?_) (fun h => ?_)
      · refine gj_iconst C (pc' := 101) (v := 0) rfl dX7_findNextGone_100 (by decide) ?_
        exact gj_zret C dX7_findNextGone_101 h
      · refine gj_iconst C (pc' := 97) (v := 1) rfl dX7_findNextGone_96 (by decide) ?_
        refine gj_goto C (tgt := 101) dX7_findNextGone_97 rfl ?_
        exact gj_zret C dX7_findNextGone_101 h
set_option maxHeartbeats 4000000 in
set_option maxRecDepth 100000 in
theorem kX7_findNextGone : ∀ (x0 : Nat) (x1 : Nat) (x2 : Nat) (w : ab_W) (r : Int32) (w1 : ab_W), sX7_findNextGone x0 x1 x2 w = some (r, w1) → gj_Mi yX7_findNextGone cX7_findNextGone 6 (some .boolean) 5 [.ref x0, .ref x1, .ref x2] w r w1 ∧ ab_is w 7 x0 = true := by
  intro x0 x1 x2 w r w1 h
  unfold sX7_findNextGone at h
  obtain ⟨hi, h⟩ := ab_ite h
  refine ⟨?_, hi⟩
  refine gj_Mi_of RX7 [some (.ref x0), some (.ref x1), some (.ref x2), none, none, none] (by decide +kernel) rfl (Nat.le_of_ble_eq_true rfl) rfl (fun p l e s m args below meth c D ad tc A C => ?_)
  refine gj_aload_n C (pc' := 1) (i := 0) rfl dX7_findNextGone_0 rfl rfl ?_
  refine gj_bipush C (pc' := 3) (v := 61) rfl dX7_findNextGone_1 (by decide) ?_
  refine gj_putI C (pc' := 6) (ty := .int) rfl dX7_findNextGone_3 wf_X7_22 wp_X7_0 rfl h (fun w1 h => ?_)
  refine gj_iconst C (pc' := 7) (v := 0) rfl dX7_findNextGone_6 (by decide) ?_
  refine gj_istore_n C (pc' := 8) (i := 3) (lv' := [_, _, _, _, _, _]) rfl dX7_findNextGone_7 rfl (by decide) rfl rfl ?_
  refine gj_drop (lv' := [some _, some _, some _, some _, none, none]) (And.intro rfl (And.intro rfl (And.intro rfl (And.intro rfl True.intro)))) ?_
  exact kX7_findNextGone_8 C h
set_option maxHeartbeats 4000000 in
set_option maxRecDepth 100000 in
theorem kX9_first : ∀ (x0 : Nat) (x1 : Int32) (w : ab_W) (r : Int32) (w1 : ab_W), sX9_first x0 x1 w = some (r, w1) → gj_Mi yX9_first cX9_first 2 (some .int) 6 [.ref x0, .int x1] w r w1 ∧ ab_is w 9 x0 = true := by
  intro x0 x1 w r w1 h
  unfold sX9_first at h
  obtain ⟨hi, h⟩ := ab_ite h
  refine ⟨?_, hi⟩
  refine gj_Mi_of RX9 [some (.ref x0), some (.int x1)] (by decide +kernel) rfl (Nat.le_of_ble_eq_true rfl) rfl (fun p l e s m args below meth c D ad tc A C => ?_)
  refine gj_iload_n C (pc' := 1) (i := 1) rfl dX9_first_0 rfl rfl ?_
  refine gj_iconst C (pc' := 2) (v := 0) rfl dX9_first_1 (by decide) ?_
  refine gj_iconst C (pc' := 3) (v := 1) rfl dX9_first_2 (by decide) ?_
  refine gj_callSi C (pc' := 6) rfl dX9_first_3 wm_X9_62 uX9_within h (kX9_within _ _ _ _) (by omega) rfl rfl (Nat.le_of_ble_eq_true rfl) (fun v1 w2 h => ?_)
  refine gj_if_ne C (pc' := 9) (tgt := 15) rfl dX9_first_6 rfl h (fun h => ?_) (fun h => ?_)
  · refine gj_aload_n C (pc' := 10) (i := 0) rfl dX9_first_9 rfl rfl ?_
    refine gj_iconst C (pc' := 11) (v := 1) rfl dX9_first_10 (by decide) ?_
    refine gj_callVi C (pc' := 14) rfl dX9_first_11 wm_X9_66 uX9_fail h (kX9_fail _ _ _) (by omega) rfl rfl (Nat.le_of_ble_eq_true rfl) (fun v3 w4 h => ?_)
    exact gj_iret C dX9_first_14 h
  · refine gj_aload_n C (pc' := 16) (i := 0) rfl dX9_first_15 rfl rfl ?_
    refine gj_getR C (pc' := 19) rfl dX9_first_16 wf_X9_40 h (fun v5 h => ?_)
    refine gj_aload_n C (pc' := 20) (i := 0) rfl dX9_first_19 rfl rfl ?_
    refine gj_getR C (pc' := 23) rfl dX9_first_20 wf_X9_30 h (fun v6 h => ?_)
    refine gj_aload_n C (pc' := 24) (i := 0) rfl dX9_first_23 rfl rfl ?_
    refine gj_getR C (pc' := 27) rfl dX9_first_24 wf_X9_23 h (fun v7 h => ?_)
    refine gj_callVi C (pc' := 30) rfl dX9_first_27 wm_X9_206 uX7_findNextGone h (kX7_findNextGone _ _ _ _) (by omega) rfl rfl (Nat.le_of_ble_eq_true rfl) (fun v8 w9 h => ?_)
    refine gj_if_ne C (pc' := 33) (tgt := 39) rfl dX9_first_30 rfl h (fun h => ?_) (fun h => ?_)
    · refine gj_aload_n C (pc' := 34) (i := 0) rfl dX9_first_33 rfl rfl ?_
      refine gj_iconst C (pc' := 35) (v := 2) rfl dX9_first_34 (by decide) ?_
      refine gj_callVi C (pc' := 38) rfl dX9_first_35 wm_X9_66 uX9_fail h (kX9_fail _ _ _) (by omega) rfl rfl (Nat.le_of_ble_eq_true rfl) (fun v10 w11 h => ?_)
      exact gj_iret C dX9_first_38 h
    · refine gj_iload_n C (pc' := 40) (i := 1) rfl dX9_first_39 rfl rfl ?_
      refine gj_if_ne C (pc' := 43) (tgt := 53) rfl dX9_first_40 rfl h (fun h => ?_) (fun h => ?_)
      · refine gj_aload_n C (pc' := 44) (i := 0) rfl dX9_first_43 rfl rfl ?_
        refine gj_getR C (pc' := 47) rfl dX9_first_44 wf_X9_40 h (fun v12 h => ?_)
        refine gj_getI C (pc' := 50) rfl dX9_first_47 wf_X9_210 h (fun v13 h => ?_)
        refine gj_goto C (tgt := 60) dX9_first_50 rfl ?_
        exact gj_iret C dX9_first_60 h
      · refine gj_aload_n C (pc' := 54) (i := 0) rfl dX9_first_53 rfl rfl ?_
        refine gj_getR C (pc' := 57) rfl dX9_first_54 wf_X9_40 h (fun v14 h => ?_)
        refine gj_getI C (pc' := 60) rfl dX9_first_57 wf_X9_213 h (fun v15 h => ?_)
        exact gj_iret C dX9_first_60 h
set_option maxHeartbeats 4000000 in
set_option maxRecDepth 100000 in
theorem kX7_findFarthest_114 {p : Program} {l : Launch} {e : Env} {s : State} {m : MethodId} {args : Array Value} {below : List Frame} {meth : Method} {c : Code} {D : va_G} {ad : Nat → Nat} {tc : Nat → ClassId} {A : Nat → Prop} (C : gj_C p s m args meth c D ad tc A cX7_findFarthest 9 (some .boolean) RX7) {r : Int32} {w1 : ab_W} {k23 : Nat → Nat → Nat → Int32 → Nat → Int32 → Int32 → ab_W → Option (Int32 × ab_W)} (hk23 : ∀ {x0 : Nat} {x1 : Nat} {x2 : Nat} {x4 : Int32} {x5 : Nat} {x6 : Int32} {x7 : Int32} {w : ab_W}, k23 x0 x1 x2 x4 x5 x6 x7 w = some (r, w1) → gj_G p l e (gj_R 4) s m args below meth c D ad tc A 9 (gj_Qi D ad tc A below args s r w1) 23 [some (.ref x0), some (.ref x1), some (.ref x2), none, some (.int x4), some (.ref x5), some (.int x6), some (.int x7), none] [] w) {x0 : Nat} {x1 : Nat} {x2 : Nat} {x4 : Int32} {x5 : Nat} {x6 : Int32} {x7 : Int32} {w : ab_W} (h : sX7_findFarthest_114 k23 x0 x1 x2 x4 x5 x6 x7 w = some (r, w1)) : gj_G p l e (gj_R 4) s m args below meth c D ad tc A 9 (gj_Qi D ad tc A below args s r w1) 114 [some (.ref x0), some (.ref x1), some (.ref x2), none, some (.int x4), some (.ref x5), some (.int x6), some (.int x7), none] [] w := by
  unfold sX7_findFarthest_114 at h
  refine gj_iinc C (pc' := 117) (i := 7) (v := _ + 1) (lv' := [_, _, _, _, _, _, _, _, _]) rfl dX7_findFarthest_114 rfl rfl (by decide) rfl rfl ?_
  refine gj_goto C (tgt := 23) dX7_findFarthest_117 rfl ?_
  refine gj_drop (lv' := [some _, some _, some _, none, some _, some _, some _, some _, none]) (And.intro rfl (And.intro rfl (And.intro rfl (And.intro rfl (And.intro rfl (And.intro rfl (And.intro rfl True.intro))))))) ?_
  exact hk23 h
set_option maxHeartbeats 4000000 in
set_option maxRecDepth 100000 in
theorem kX7_findFarthest_23 {p : Program} {l : Launch} {e : Env} {s : State} {m : MethodId} {args : Array Value} {below : List Frame} {meth : Method} {c : Code} {D : va_G} {ad : Nat → Nat} {tc : Nat → ClassId} {A : Nat → Prop} (C : gj_C p s m args meth c D ad tc A cX7_findFarthest 9 (some .boolean) RX7) {r : Int32} {w1 : ab_W} : ∀ {n : Nat} {x0 : Nat} {x1 : Nat} {x2 : Nat} {x4 : Int32} {x5 : Nat} {x6 : Int32} {x7 : Int32} {w : ab_W}, sX7_findFarthest_23 n x0 x1 x2 x4 x5 x6 x7 w = some (r, w1) → gj_G p l e (gj_R 4) s m args below meth c D ad tc A 9 (gj_Qi D ad tc A below args s r w1) 23 [some (.ref x0), some (.ref x1), some (.ref x2), none, some (.int x4), some (.ref x5), some (.int x6), some (.int x7), none] [] w := by
  intro n
  induction n with
  | zero =>
    intros
    rename_i h
    cases h
  | succ n ih =>
    intro x0 x1 x2 x4 x5 x6 x7 w h
    rw [sX7_findFarthest_23] at h
    refine gj_iload C (pc' := 25) (i := 7) rfl dX7_findFarthest_23 rfl ?_
    refine gj_sipush C (pc' := 28) (v := 128) rfl dX7_findFarthest_25 (by decide) ?_
    refine gj_icmp_ge C (pc' := 31) (tgt := 120) rfl dX7_findFarthest_28 rfl h (fun h => ?_) (fun h => ?_)
    · refine gj_aload_n C (pc' := 32) (i := 2) rfl dX7_findFarthest_31 rfl rfl ?_
      refine gj_aload C (pc' := 34) (i := 5) rfl dX7_findFarthest_32 rfl ?_
      refine gj_iload C (pc' := 36) (i := 7) rfl dX7_findFarthest_34 rfl ?_
      refine gj_callVi C (pc' := 39) rfl dX7_findFarthest_36 wm_X7_121 uX6_live h (kX6_live _ _ _ _) (by omega) rfl rfl (Nat.le_of_ble_eq_true rfl) (fun v1 w2 h => ?_)
      refine gj_if_eq C (pc' := 42) (tgt := 114) rfl dX7_findFarthest_39 rfl h (fun h => ?_) (fun h => ?_)
      · refine gj_drop (lv' := [some _, some _, some _, none, some _, some _, some _, some _, none]) (And.intro rfl (And.intro rfl (And.intro rfl (And.intro rfl (And.intro rfl (And.intro rfl (And.intro rfl True.intro))))))) ?_
        exact kX7_findFarthest_114 C (fun h => ih h) h
      · refine gj_aload_n C (pc' := 43) (i := 2) rfl dX7_findFarthest_42 rfl rfl ?_
        refine gj_getR C (pc' := 46) rfl dX7_findFarthest_43 wf_X7_86 h (fun v3 h => ?_)
        refine gj_iload C (pc' := 48) (i := 7) rfl dX7_findFarthest_46 rfl ?_
        refine gj_iald C (pc' := 49) rfl dX7_findFarthest_48 h (fun v4 h => ?_)
        refine gj_iload C (pc' := 51) (i := 6) rfl dX7_findFarthest_49 rfl ?_
        refine gj_icmp_gt C (pc' := 54) (tgt := 114) rfl dX7_findFarthest_51 rfl h (fun h => ?_) (fun h => ?_)
        · refine gj_drop (lv' := [some _, some _, some _, none, some _, some _, some _, some _, none]) (And.intro rfl (And.intro rfl (And.intro rfl (And.intro rfl (And.intro rfl (And.intro rfl (And.intro rfl True.intro))))))) ?_
          exact kX7_findFarthest_114 C (fun h => ih h) h
        · refine gj_aload_n C (pc' := 55) (i := 0) rfl dX7_findFarthest_54 rfl rfl ?_
          refine gj_getR C (pc' := 58) rfl dX7_findFarthest_55 wf_X7_12 h (fun v5 h => ?_)
          refine gj_aload C (pc' := 60) (i := 5) rfl dX7_findFarthest_58 rfl ?_
          refine gj_iconst C (pc' := 61) (v := 1) rfl dX7_findFarthest_60 (by decide) ?_
          refine gj_callVv C (pc' := 64) rfl dX7_findFarthest_61 wm_X7_64 uX1_begin h (kX1_begin _ _ _ _) (by omega) rfl rfl (Nat.le_of_ble_eq_true rfl) (fun w6 h => ?_)
          refine gj_aload_n C (pc' := 65) (i := 0) rfl dX7_findFarthest_64 rfl rfl ?_
          refine gj_aload_n C (pc' := 66) (i := 1) rfl dX7_findFarthest_65 rfl rfl ?_
          refine gj_aload_n C (pc' := 67) (i := 2) rfl dX7_findFarthest_66 rfl rfl ?_
          refine gj_aload C (pc' := 69) (i := 5) rfl dX7_findFarthest_67 rfl ?_
          refine gj_getI C (pc' := 72) rfl dX7_findFarthest_69 wf_X7_68 h (fun v7 h => ?_)
          refine gj_iload C (pc' := 74) (i := 7) rfl dX7_findFarthest_72 rfl ?_
          refine gj_aload_n C (pc' := 75) (i := 1) rfl dX7_findFarthest_74 rfl rfl ?_
          refine gj_getI C (pc' := 78) rfl dX7_findFarthest_75 wf_X7_74 h (fun v8 h => ?_)
          refine gj_callVv C (pc' := 81) rfl dX7_findFarthest_78 wm_X7_77 uX7_pace h (kX7_pace _ _ _ _ _ _ _) (by omega) rfl rfl (Nat.le_of_ble_eq_true rfl) (fun w9 h => ?_)
          refine gj_aload_n C (pc' := 82) (i := 0) rfl dX7_findFarthest_81 rfl rfl ?_
          refine gj_aload_n C (pc' := 83) (i := 1) rfl dX7_findFarthest_82 rfl rfl ?_
          refine gj_getI C (pc' := 86) rfl dX7_findFarthest_83 wf_X7_61 h (fun v10 h => ?_)
          refine gj_iload C (pc' := 88) (i := 4) rfl dX7_findFarthest_86 rfl ?_
          refine gj_callVi C (pc' := 91) rfl dX7_findFarthest_88 wm_X7_105 uX7_farGone h (kX7_farGone _ _ _ _) (by omega) rfl rfl (Nat.le_of_ble_eq_true rfl) (fun v11 w12 h => ?_)
          refine gj_istore C (pc' := 93) (i := 8) (lv' := [_, _, _, _, _, _, _, _, _]) rfl dX7_findFarthest_91 (by decide) rfl rfl ?_
          refine gj_iload C (pc' := 95) (i := 8) rfl dX7_findFarthest_93 rfl ?_
          refine gj_aload_n C (pc' := 96) (i := 0) rfl dX7_findFarthest_95 rfl rfl ?_
          refine gj_getI C (pc' := 99) rfl dX7_findFarthest_96 wf_X7_32 h (fun v13 h => ?_)
          refine gj_icmp_le C (pc' := 102) (tgt := 114) rfl dX7_findFarthest_99 rfl h (fun h => ?_) (fun h => ?_)
          · refine gj_aload_n C (pc' := 103) (i := 0) rfl dX7_findFarthest_102 rfl rfl ?_
            refine gj_iload C (pc' := 105) (i := 8) rfl dX7_findFarthest_103 rfl ?_
            refine gj_putI C (pc' := 108) (ty := .int) rfl dX7_findFarthest_105 wf_X7_32 wp_X7_3 rfl h (fun w14 h => ?_)
            refine gj_aload_n C (pc' := 109) (i := 0) rfl dX7_findFarthest_108 rfl rfl ?_
            refine gj_iload C (pc' := 111) (i := 7) rfl dX7_findFarthest_109 rfl ?_
            refine gj_putI C (pc' := 114) (ty := .int) rfl dX7_findFarthest_111 wf_X7_29 wp_X7_2 rfl h (fun w15 h => ?_)
            refine gj_drop (lv' := [some _, some _, some _, none, some _, some _, some _, some _, none]) (And.intro rfl (And.intro rfl (And.intro rfl (And.intro rfl (And.intro rfl (And.intro rfl (And.intro rfl True.intro))))))) ?_
            exact kX7_findFarthest_114 C (fun h => ih h) h
          · refine gj_drop (lv' := [some _, some _, some _, none, some _, some _, some _, some _, none]) (And.intro rfl (And.intro rfl (And.intro rfl (And.intro rfl (And.intro rfl (And.intro rfl (And.intro rfl True.intro))))))) ?_
            exact kX7_findFarthest_114 C (fun h => ih h) h
    · refine gj_aload_n C (pc' := 121) (i := 0) rfl dX7_findFarthest_120 rfl rfl ?_
      refine gj_getI C (pc' := 124) rfl dX7_findFarthest_121 wf_X7_32 h (fun v16 h => ?_)
      refine gj_if_lt C (pc' := 127) (tgt := 131) rfl dX7_findFarthest_124 rfl h (fun h => ?_) (fun h => ?_)
      · refine gj_iconst C (pc' := 132) (v := 0) rfl dX7_findFarthest_131 (by decide) ?_
        exact gj_zret C dX7_findFarthest_132 h
      · refine gj_iconst C (pc' := 128) (v := 1) rfl dX7_findFarthest_127 (by decide) ?_
        refine gj_goto C (tgt := 132) dX7_findFarthest_128 rfl ?_
        exact gj_zret C dX7_findFarthest_132 h
set_option maxHeartbeats 4000000 in
set_option maxRecDepth 100000 in
theorem kX7_findFarthest : ∀ (x0 : Nat) (x1 : Nat) (x2 : Nat) (x3 : Int32) (x4 : Int32) (w : ab_W) (r : Int32) (w1 : ab_W), sX7_findFarthest x0 x1 x2 x3 x4 w = some (r, w1) → gj_Mi yX7_findFarthest cX7_findFarthest 9 (some .boolean) 4 [.ref x0, .ref x1, .ref x2, .int x3, .int x4] w r w1 ∧ ab_is w 7 x0 = true := by
  intro x0 x1 x2 x3 x4 w r w1 h
  unfold sX7_findFarthest at h
  obtain ⟨hi, h⟩ := ab_ite h
  refine ⟨?_, hi⟩
  refine gj_Mi_of RX7 [some (.ref x0), some (.ref x1), some (.ref x2), some (.int x3), some (.int x4), none, none, none, none] (by decide +kernel) rfl (Nat.le_of_ble_eq_true rfl) rfl (fun p l e s m args below meth c D ad tc A C => ?_)
  refine gj_aload_n C (pc' := 1) (i := 1) rfl dX7_findFarthest_0 rfl rfl ?_
  refine gj_getR C (pc' := 4) rfl dX7_findFarthest_1 wf_X7_40 h (fun v1 h => ?_)
  refine gj_iload_n C (pc' := 5) (i := 3) rfl dX7_findFarthest_4 rfl rfl ?_
  refine gj_rald C (pc' := 6) (t := 1) rfl dX7_findFarthest_5 rfl h (fun v2 h => ?_)
  refine gj_astore C (pc' := 8) (i := 5) (lv' := [_, _, _, _, _, _, _, _, _]) rfl dX7_findFarthest_6 (by decide) rfl rfl ?_
  refine gj_aload C (pc' := 10) (i := 5) rfl dX7_findFarthest_8 rfl ?_
  refine gj_callVi C (pc' := 13) rfl dX7_findFarthest_10 wm_X7_117 uX3_stiff h (kX3_stiff _ _) (by omega) rfl rfl (Nat.le_of_ble_eq_true rfl) (fun v3 w4 h => ?_)
  refine gj_istore C (pc' := 15) (i := 6) (lv' := [_, _, _, _, _, _, _, _, _]) rfl dX7_findFarthest_13 (by decide) rfl rfl ?_
  refine gj_aload_n C (pc' := 16) (i := 0) rfl dX7_findFarthest_15 rfl rfl ?_
  refine gj_iconst C (pc' := 17) (v := (-1)) rfl dX7_findFarthest_16 (by decide) ?_
  refine gj_putI C (pc' := 20) (ty := .int) rfl dX7_findFarthest_17 wf_X7_32 wp_X7_3 rfl h (fun w5 h => ?_)
  refine gj_iconst C (pc' := 21) (v := 0) rfl dX7_findFarthest_20 (by decide) ?_
  refine gj_istore C (pc' := 23) (i := 7) (lv' := [_, _, _, _, _, _, _, _, _]) rfl dX7_findFarthest_21 (by decide) rfl rfl ?_
  refine gj_drop (lv' := [some _, some _, some _, none, some _, some _, some _, some _, none]) (And.intro rfl (And.intro rfl (And.intro rfl (And.intro rfl (And.intro rfl (And.intro rfl (And.intro rfl True.intro))))))) ?_
  exact kX7_findFarthest_23 C h
set_option maxHeartbeats 4000000 in
set_option maxRecDepth 100000 in
theorem kX9_best_30 {p : Program} {l : Launch} {e : Env} {s : State} {m : MethodId} {args : Array Value} {below : List Frame} {meth : Method} {c : Code} {D : va_G} {ad : Nat → Nat} {tc : Nat → ClassId} {A : Nat → Prop} (C : gj_C p s m args meth c D ad tc A cX9_best 4 (some .int) RX9) {r : Int32} {w1 : ab_W} {x0 : Nat} {w : ab_W} (h : sX9_best_30 x0 w = some (r, w1)) : gj_G p l e (gj_R 5) s m args below meth c D ad tc A 4 (gj_Qi D ad tc A below args s r w1) 30 [some (.ref x0), none, none, none] [] w := by
  unfold sX9_best_30 at h
  refine gj_aload_n C (pc' := 31) (i := 0) rfl dX9_best_30 rfl rfl ?_
  refine gj_iconst C (pc' := 32) (v := 1) rfl dX9_best_31 (by decide) ?_
  refine gj_callVi C (pc' := 35) rfl dX9_best_32 wm_X9_66 uX9_fail h (kX9_fail _ _ _) (by omega) rfl rfl (Nat.le_of_ble_eq_true rfl) (fun v1 w2 h => ?_)
  exact gj_iret C dX9_best_35 h
set_option maxHeartbeats 4000000 in
set_option maxRecDepth 100000 in
theorem kX9_best : ∀ (x0 : Nat) (x1 : Int32) (x2 : Int32) (x3 : Int32) (w : ab_W) (r : Int32) (w1 : ab_W), sX9_best x0 x1 x2 x3 w = some (r, w1) → gj_Mi yX9_best cX9_best 4 (some .int) 5 [.ref x0, .int x1, .int x2, .int x3] w r w1 ∧ ab_is w 9 x0 = true := by
  intro x0 x1 x2 x3 w r w1 h
  unfold sX9_best at h
  obtain ⟨hi, h⟩ := ab_ite h
  refine ⟨?_, hi⟩
  refine gj_Mi_of RX9 [some (.ref x0), some (.int x1), some (.int x2), some (.int x3)] (by decide +kernel) rfl (Nat.le_of_ble_eq_true rfl) rfl (fun p l e s m args below meth c D ad tc A C => ?_)
  refine gj_aload_n C (pc' := 1) (i := 0) rfl dX9_best_0 rfl rfl ?_
  refine gj_getR C (pc' := 4) rfl dX9_best_1 wf_X9_30 h (fun v1 h => ?_)
  refine gj_iload_n C (pc' := 5) (i := 1) rfl dX9_best_4 rfl rfl ?_
  refine gj_callVi C (pc' := 8) rfl dX9_best_5 wm_X9_77 uX0_has h (kX0_has _ _ _) (by omega) rfl rfl (Nat.le_of_ble_eq_true rfl) (fun v2 w3 h => ?_)
  refine gj_if_eq C (pc' := 11) (tgt := 30) rfl dX9_best_8 rfl h (fun h => ?_) (fun h => ?_)
  · refine gj_drop (lv' := [some _, none, none, none]) (And.intro rfl True.intro) ?_
    exact kX9_best_30 C h
  · refine gj_iload_n C (pc' := 12) (i := 2) rfl dX9_best_11 rfl rfl ?_
    refine gj_iconst C (pc' := 13) (v := 0) rfl dX9_best_12 (by decide) ?_
    refine gj_bipush C (pc' := 15) (v := 60) rfl dX9_best_13 (by decide) ?_
    refine gj_callSi C (pc' := 18) rfl dX9_best_15 wm_X9_62 uX9_within h (kX9_within _ _ _ _) (by omega) rfl rfl (Nat.le_of_ble_eq_true rfl) (fun v4 w5 h => ?_)
    refine gj_if_eq C (pc' := 21) (tgt := 30) rfl dX9_best_18 rfl h (fun h => ?_) (fun h => ?_)
    · refine gj_drop (lv' := [some _, none, none, none]) (And.intro rfl True.intro) ?_
      exact kX9_best_30 C h
    · refine gj_iload_n C (pc' := 22) (i := 3) rfl dX9_best_21 rfl rfl ?_
      refine gj_iconst C (pc' := 23) (v := 0) rfl dX9_best_22 (by decide) ?_
      refine gj_iconst C (pc' := 24) (v := 1) rfl dX9_best_23 (by decide) ?_
      refine gj_callSi C (pc' := 27) rfl dX9_best_24 wm_X9_62 uX9_within h (kX9_within _ _ _ _) (by omega) rfl rfl (Nat.le_of_ble_eq_true rfl) (fun v6 w7 h => ?_)
      refine gj_if_ne C (pc' := 30) (tgt := 36) rfl dX9_best_27 rfl h (fun h => ?_) (fun h => ?_)
      · refine gj_drop (lv' := [some _, none, none, none]) (And.intro rfl True.intro) ?_
        exact kX9_best_30 C h
      · refine gj_aload_n C (pc' := 37) (i := 0) rfl dX9_best_36 rfl rfl ?_
        refine gj_getR C (pc' := 40) rfl dX9_best_37 wf_X9_40 h (fun v8 h => ?_)
        refine gj_aload_n C (pc' := 41) (i := 0) rfl dX9_best_40 rfl rfl ?_
        refine gj_getR C (pc' := 44) rfl dX9_best_41 wf_X9_30 h (fun v9 h => ?_)
        refine gj_aload_n C (pc' := 45) (i := 0) rfl dX9_best_44 rfl rfl ?_
        refine gj_getR C (pc' := 48) rfl dX9_best_45 wf_X9_23 h (fun v10 h => ?_)
        refine gj_iload_n C (pc' := 49) (i := 1) rfl dX9_best_48 rfl rfl ?_
        refine gj_iload_n C (pc' := 50) (i := 2) rfl dX9_best_49 rfl rfl ?_
        refine gj_callVi C (pc' := 53) rfl dX9_best_50 wm_X9_216 uX7_findFarthest h (kX7_findFarthest _ _ _ _ _ _) (by omega) rfl rfl (Nat.le_of_ble_eq_true rfl) (fun v11 w12 h => ?_)
        refine gj_if_ne C (pc' := 56) (tgt := 62) rfl dX9_best_53 rfl h (fun h => ?_) (fun h => ?_)
        · refine gj_aload_n C (pc' := 57) (i := 0) rfl dX9_best_56 rfl rfl ?_
          refine gj_iconst C (pc' := 58) (v := 2) rfl dX9_best_57 (by decide) ?_
          refine gj_callVi C (pc' := 61) rfl dX9_best_58 wm_X9_66 uX9_fail h (kX9_fail _ _ _) (by omega) rfl rfl (Nat.le_of_ble_eq_true rfl) (fun v13 w14 h => ?_)
          exact gj_iret C dX9_best_61 h
        · refine gj_iload_n C (pc' := 63) (i := 3) rfl dX9_best_62 rfl rfl ?_
          refine gj_if_ne C (pc' := 66) (tgt := 76) rfl dX9_best_63 rfl h (fun h => ?_) (fun h => ?_)
          · refine gj_aload_n C (pc' := 67) (i := 0) rfl dX9_best_66 rfl rfl ?_
            refine gj_getR C (pc' := 70) rfl dX9_best_67 wf_X9_40 h (fun v15 h => ?_)
            refine gj_getI C (pc' := 73) rfl dX9_best_70 wf_X9_220 h (fun v16 h => ?_)
            refine gj_goto C (tgt := 83) dX9_best_73 rfl ?_
            exact gj_iret C dX9_best_83 h
          · refine gj_aload_n C (pc' := 77) (i := 0) rfl dX9_best_76 rfl rfl ?_
            refine gj_getR C (pc' := 80) rfl dX9_best_77 wf_X9_40 h (fun v17 h => ?_)
            refine gj_getI C (pc' := 83) rfl dX9_best_80 wf_X9_223 h (fun v18 h => ?_)
            exact gj_iret C dX9_best_83 h
set_option maxHeartbeats 4000000 in
set_option maxRecDepth 100000 in
theorem kX5_isMissing : ∀ (x0 : Nat) (w : ab_W) (r : Int32) (w1 : ab_W), sX5_isMissing x0 w = some (r, w1) → gj_Mi yX5_isMissing cX5_isMissing 1 (some .boolean) 0 [.ref x0] w r w1 ∧ ab_is w 5 x0 = true := by
  intro x0 w r w1 h
  unfold sX5_isMissing at h
  obtain ⟨hi, h⟩ := ab_ite h
  refine ⟨?_, hi⟩
  refine gj_Mi_of RX5 [some (.ref x0)] (by decide +kernel) rfl (Nat.le_of_ble_eq_true rfl) rfl (fun p l e s m args below meth c D ad tc A C => ?_)
  refine gj_aload_n C (pc' := 1) (i := 0) rfl dX5_isMissing_0 rfl rfl ?_
  refine gj_getI C (pc' := 4) rfl dX5_isMissing_1 wf_X5_15 h (fun v1 h => ?_)
  refine gj_if_ne C (pc' := 7) (tgt := 11) rfl dX5_isMissing_4 rfl h (fun h => ?_) (fun h => ?_)
  · refine gj_iconst C (pc' := 8) (v := 1) rfl dX5_isMissing_7 (by decide) ?_
    refine gj_goto C (tgt := 12) dX5_isMissing_8 rfl ?_
    exact gj_zret C dX5_isMissing_12 h
  · refine gj_iconst C (pc' := 12) (v := 0) rfl dX5_isMissing_11 (by decide) ?_
    exact gj_zret C dX5_isMissing_12 h
set_option maxHeartbeats 4000000 in
set_option maxRecDepth 100000 in
theorem kX7_fittingWinds_86 {p : Program} {l : Launch} {e : Env} {s : State} {m : MethodId} {args : Array Value} {below : List Frame} {meth : Method} {c : Code} {D : va_G} {ad : Nat → Nat} {tc : Nat → ClassId} {A : Nat → Prop} (C : gj_C p s m args meth c D ad tc A cX7_fittingWinds 9 (some .int) RX7) {r : Int32} {w1 : ab_W} {k6 : Nat → Nat → Nat → Nat → Int32 → Int32 → Int32 → ab_W → Option (Int32 × ab_W)} (hk6 : ∀ {x0 : Nat} {x1 : Nat} {x2 : Nat} {x3 : Nat} {x4 : Int32} {x5 : Int32} {x6 : Int32} {w : ab_W}, k6 x0 x1 x2 x3 x4 x5 x6 w = some (r, w1) → gj_G p l e (gj_R 5) s m args below meth c D ad tc A 9 (gj_Qi D ad tc A below args s r w1) 6 [some (.ref x0), some (.ref x1), some (.ref x2), some (.ref x3), some (.int x4), some (.int x5), some (.int x6), none, none] [] w) {x0 : Nat} {x1 : Nat} {x2 : Nat} {x3 : Nat} {x4 : Int32} {x5 : Int32} {x6 : Int32} {w : ab_W} (h : sX7_fittingWinds_86 k6 x0 x1 x2 x3 x4 x5 x6 w = some (r, w1)) : gj_G p l e (gj_R 5) s m args below meth c D ad tc A 9 (gj_Qi D ad tc A below args s r w1) 86 [some (.ref x0), some (.ref x1), some (.ref x2), some (.ref x3), some (.int x4), some (.int x5), some (.int x6), none, none] [] w := by
  unfold sX7_fittingWinds_86 at h
  refine gj_iinc C (pc' := 89) (i := 6) (v := _ + 1) (lv' := [_, _, _, _, _, _, _, _, _]) rfl dX7_fittingWinds_86 rfl rfl (by decide) rfl rfl ?_
  refine gj_goto C (tgt := 6) dX7_fittingWinds_89 rfl ?_
  refine gj_drop (lv' := [some _, some _, some _, some _, some _, some _, some _, none, none]) (And.intro rfl (And.intro rfl (And.intro rfl (And.intro rfl (And.intro rfl (And.intro rfl (And.intro rfl True.intro))))))) ?_
  exact hk6 h
set_option maxHeartbeats 4000000 in
set_option maxRecDepth 100000 in
theorem kX7_fittingWinds_72 {p : Program} {l : Launch} {e : Env} {s : State} {m : MethodId} {args : Array Value} {below : List Frame} {meth : Method} {c : Code} {D : va_G} {ad : Nat → Nat} {tc : Nat → ClassId} {A : Nat → Prop} (C : gj_C p s m args meth c D ad tc A cX7_fittingWinds 9 (some .int) RX7) {r : Int32} {w1 : ab_W} {k6 : Nat → Nat → Nat → Nat → Int32 → Int32 → Int32 → ab_W → Option (Int32 × ab_W)} (hk6 : ∀ {x0 : Nat} {x1 : Nat} {x2 : Nat} {x3 : Nat} {x4 : Int32} {x5 : Int32} {x6 : Int32} {w : ab_W}, k6 x0 x1 x2 x3 x4 x5 x6 w = some (r, w1) → gj_G p l e (gj_R 5) s m args below meth c D ad tc A 9 (gj_Qi D ad tc A below args s r w1) 6 [some (.ref x0), some (.ref x1), some (.ref x2), some (.ref x3), some (.int x4), some (.int x5), some (.int x6), none, none] [] w) {x0 : Nat} {x1 : Nat} {x2 : Nat} {x3 : Nat} {x4 : Int32} {x5 : Int32} {x6 : Int32} {x7 : Int32} {w : ab_W} (h : sX7_fittingWinds_72 k6 x0 x1 x2 x3 x4 x5 x6 x7 w = some (r, w1)) : gj_G p l e (gj_R 5) s m args below meth c D ad tc A 9 (gj_Qi D ad tc A below args s r w1) 72 [some (.ref x0), some (.ref x1), some (.ref x2), some (.ref x3), some (.int x4), some (.int x5), some (.int x6), some (.int x7), none] [] w := by
  unfold sX7_fittingWinds_72 at h
  refine gj_iload C (pc' := 74) (i := 7) rfl dX7_fittingWinds_72 rfl ?_
  refine gj_if_eq C (pc' := 77) (tgt := 86) rfl dX7_fittingWinds_74 rfl h (fun h => ?_) (fun h => ?_)
  · refine gj_drop (lv' := [some _, some _, some _, some _, some _, some _, some _, none, none]) (And.intro rfl (And.intro rfl (And.intro rfl (And.intro rfl (And.intro rfl (And.intro rfl (And.intro rfl True.intro))))))) ?_
    exact kX7_fittingWinds_86 C (fun h => hk6 h) h
  · refine gj_iload C (pc' := 79) (i := 5) rfl dX7_fittingWinds_77 rfl ?_
    refine gj_iconst C (pc' := 80) (v := 1) rfl dX7_fittingWinds_79 (by decide) ?_
    refine gj_iload C (pc' := 82) (i := 6) rfl dX7_fittingWinds_80 rfl ?_
    refine gj_ishl C (pc' := 83) rfl dX7_fittingWinds_82 ?_
    refine gj_ior C (pc' := 84) rfl dX7_fittingWinds_83 ?_
    refine gj_istore C (pc' := 86) (i := 5) (lv' := [_, _, _, _, _, _, _, _, _]) rfl dX7_fittingWinds_84 (by decide) rfl rfl ?_
    refine gj_drop (lv' := [some _, some _, some _, some _, some _, some _, some _, none, none]) (And.intro rfl (And.intro rfl (And.intro rfl (And.intro rfl (And.intro rfl (And.intro rfl (And.intro rfl True.intro))))))) ?_
    exact kX7_fittingWinds_86 C (fun h => hk6 h) h
set_option maxHeartbeats 4000000 in
set_option maxRecDepth 100000 in
theorem kX7_fittingWinds_64 {p : Program} {l : Launch} {e : Env} {s : State} {m : MethodId} {args : Array Value} {below : List Frame} {meth : Method} {c : Code} {D : va_G} {ad : Nat → Nat} {tc : Nat → ClassId} {A : Nat → Prop} (C : gj_C p s m args meth c D ad tc A cX7_fittingWinds 9 (some .int) RX7) {r : Int32} {w1 : ab_W} {k6 : Nat → Nat → Nat → Nat → Int32 → Int32 → Int32 → ab_W → Option (Int32 × ab_W)} {k19 : Nat → Nat → Nat → Nat → Int32 → Int32 → Int32 → Int32 → Int32 → ab_W → Option (Int32 × ab_W)} (hk6 : ∀ {x0 : Nat} {x1 : Nat} {x2 : Nat} {x3 : Nat} {x4 : Int32} {x5 : Int32} {x6 : Int32} {w : ab_W}, k6 x0 x1 x2 x3 x4 x5 x6 w = some (r, w1) → gj_G p l e (gj_R 5) s m args below meth c D ad tc A 9 (gj_Qi D ad tc A below args s r w1) 6 [some (.ref x0), some (.ref x1), some (.ref x2), some (.ref x3), some (.int x4), some (.int x5), some (.int x6), none, none] [] w) (hk19 : ∀ {x0 : Nat} {x1 : Nat} {x2 : Nat} {x3 : Nat} {x4 : Int32} {x5 : Int32} {x6 : Int32} {x7 : Int32} {x8 : Int32} {w : ab_W}, k19 x0 x1 x2 x3 x4 x5 x6 x7 x8 w = some (r, w1) → gj_G p l e (gj_R 5) s m args below meth c D ad tc A 9 (gj_Qi D ad tc A below args s r w1) 19 [some (.ref x0), some (.ref x1), some (.ref x2), some (.ref x3), some (.int x4), some (.int x5), some (.int x6), some (.int x7), some (.int x8)] [] w) {x0 : Nat} {x1 : Nat} {x2 : Nat} {x3 : Nat} {x4 : Int32} {x5 : Int32} {x6 : Int32} {x8 : Int32} {p0 : Int32} {w : ab_W} (h : sX7_fittingWinds_64 k6 k19 x0 x1 x2 x3 x4 x5 x6 x8 p0 w = some (r, w1)) : gj_G p l e (gj_R 5) s m args below meth c D ad tc A 9 (gj_Qi D ad tc A below args s r w1) 64 [some (.ref x0), some (.ref x1), some (.ref x2), some (.ref x3), some (.int x4), some (.int x5), some (.int x6), none, some (.int x8)] [.int p0] w := by
  unfold sX7_fittingWinds_64 at h
  refine gj_istore C (pc' := 66) (i := 7) (lv' := [_, _, _, _, _, _, _, _, _]) rfl dX7_fittingWinds_64 (by decide) rfl rfl ?_
  refine gj_iinc C (pc' := 69) (i := 8) (v := _ + 1) (lv' := [_, _, _, _, _, _, _, _, _]) rfl dX7_fittingWinds_66 rfl rfl (by decide) rfl rfl ?_
  refine gj_goto C (tgt := 19) dX7_fittingWinds_69 rfl ?_
  refine gj_drop (lv' := [some _, some _, some _, some _, some _, some _, some _, some _, some _]) (And.intro rfl (And.intro rfl (And.intro rfl (And.intro rfl (And.intro rfl (And.intro rfl (And.intro rfl (And.intro rfl (And.intro rfl True.intro))))))))) ?_
  exact hk19 h
set_option maxHeartbeats 4000000 in
set_option maxRecDepth 100000 in
theorem kX7_fittingWinds_19 {p : Program} {l : Launch} {e : Env} {s : State} {m : MethodId} {args : Array Value} {below : List Frame} {meth : Method} {c : Code} {D : va_G} {ad : Nat → Nat} {tc : Nat → ClassId} {A : Nat → Prop} (C : gj_C p s m args meth c D ad tc A cX7_fittingWinds 9 (some .int) RX7) {r : Int32} {w1 : ab_W} {k6 : Nat → Nat → Nat → Nat → Int32 → Int32 → Int32 → ab_W → Option (Int32 × ab_W)} (hk6 : ∀ {x0 : Nat} {x1 : Nat} {x2 : Nat} {x3 : Nat} {x4 : Int32} {x5 : Int32} {x6 : Int32} {w : ab_W}, k6 x0 x1 x2 x3 x4 x5 x6 w = some (r, w1) → gj_G p l e (gj_R 5) s m args below meth c D ad tc A 9 (gj_Qi D ad tc A below args s r w1) 6 [some (.ref x0), some (.ref x1), some (.ref x2), some (.ref x3), some (.int x4), some (.int x5), some (.int x6), none, none] [] w) : ∀ {n : Nat} {x0 : Nat} {x1 : Nat} {x2 : Nat} {x3 : Nat} {x4 : Int32} {x5 : Int32} {x6 : Int32} {x7 : Int32} {x8 : Int32} {w : ab_W}, sX7_fittingWinds_19 k6 n x0 x1 x2 x3 x4 x5 x6 x7 x8 w = some (r, w1) → gj_G p l e (gj_R 5) s m args below meth c D ad tc A 9 (gj_Qi D ad tc A below args s r w1) 19 [some (.ref x0), some (.ref x1), some (.ref x2), some (.ref x3), some (.int x4), some (.int x5), some (.int x6), some (.int x7), some (.int x8)] [] w := by
  intro n
  induction n with
  | zero =>
    intros
    rename_i h
    cases h
  | succ n ih =>
    intro x0 x1 x2 x3 x4 x5 x6 x7 x8 w h
    rw [sX7_fittingWinds_19] at h
    refine gj_iload C (pc' := 21) (i := 7) rfl dX7_fittingWinds_19 rfl ?_
    refine gj_if_eq C (pc' := 24) (tgt := 72) rfl dX7_fittingWinds_21 rfl h (fun h => ?_) (fun h => ?_)
    · refine gj_drop (lv' := [some _, some _, some _, some _, some _, some _, some _, some _, none]) (And.intro rfl (And.intro rfl (And.intro rfl (And.intro rfl (And.intro rfl (And.intro rfl (And.intro rfl (And.intro rfl True.intro)))))))) ?_
      exact kX7_fittingWinds_72 C (fun h => hk6 h) h
    · refine gj_iload C (pc' := 26) (i := 8) rfl dX7_fittingWinds_24 rfl ?_
      refine gj_aload_n C (pc' := 27) (i := 1) rfl dX7_fittingWinds_26 rfl rfl ?_
      refine gj_getI C (pc' := 30) rfl dX7_fittingWinds_27 wf_X7_35 h (fun v1 h => ?_)
      refine gj_icmp_ge C (pc' := 33) (tgt := 72) rfl dX7_fittingWinds_30 rfl h (fun h => ?_) (fun h => ?_)
      · refine gj_iload C (pc' := 35) (i := 8) rfl dX7_fittingWinds_33 rfl ?_
        refine gj_aload_n C (pc' := 36) (i := 3) rfl dX7_fittingWinds_35 rfl rfl ?_
        refine gj_alen C (pc' := 37) rfl dX7_fittingWinds_36 h (fun v2 h => ?_)
        refine gj_icmp_ge C (pc' := 40) (tgt := 72) rfl dX7_fittingWinds_37 rfl h (fun h => ?_) (fun h => ?_)
        · refine gj_aload_n C (pc' := 41) (i := 3) rfl dX7_fittingWinds_40 rfl rfl ?_
          refine gj_iload C (pc' := 43) (i := 8) rfl dX7_fittingWinds_41 rfl ?_
          refine gj_iald C (pc' := 44) rfl dX7_fittingWinds_43 h (fun v3 h => ?_)
          refine gj_aload_n C (pc' := 45) (i := 0) rfl dX7_fittingWinds_44 rfl rfl ?_
          refine gj_aload_n C (pc' := 46) (i := 1) rfl dX7_fittingWinds_45 rfl rfl ?_
          refine gj_aload_n C (pc' := 47) (i := 2) rfl dX7_fittingWinds_46 rfl rfl ?_
          refine gj_iload C (pc' := 49) (i := 8) rfl dX7_fittingWinds_47 rfl ?_
          refine gj_iload C (pc' := 51) (i := 6) rfl dX7_fittingWinds_49 rfl ?_
          refine gj_iload C (pc' := 53) (i := 4) rfl dX7_fittingWinds_51 rfl ?_
          refine gj_callVi C (pc' := 56) rfl dX7_fittingWinds_53 wm_X7_125 uX7_farBehind h (kX7_farBehind _ _ _ _ _ _ _) (by omega) rfl rfl (Nat.le_of_ble_eq_true rfl) (fun v4 w5 h => ?_)
          refine gj_icmp_ne C (pc' := 59) (tgt := 63) rfl dX7_fittingWinds_56 rfl h (fun h => ?_) (fun h => ?_)
          · refine gj_iconst C (pc' := 60) (v := 1) rfl dX7_fittingWinds_59 (by decide) ?_
            refine gj_goto C (tgt := 64) dX7_fittingWinds_60 rfl ?_
            refine gj_drop (lv' := [some _, some _, some _, some _, some _, some _, some _, none, some _]) (And.intro rfl (And.intro rfl (And.intro rfl (And.intro rfl (And.intro rfl (And.intro rfl (And.intro rfl (And.intro rfl True.intro)))))))) ?_
            exact kX7_fittingWinds_64 C (fun h => hk6 h) (fun h => ih h) h
          · refine gj_iconst C (pc' := 64) (v := 0) rfl dX7_fittingWinds_63 (by decide) ?_
            refine gj_drop (lv' := [some _, some _, some _, some _, some _, some _, some _, none, some _]) (And.intro rfl (And.intro rfl (And.intro rfl (And.intro rfl (And.intro rfl (And.intro rfl (And.intro rfl (And.intro rfl True.intro)))))))) ?_
            exact kX7_fittingWinds_64 C (fun h => hk6 h) (fun h => ih h) h
        · refine gj_drop (lv' := [some _, some _, some _, some _, some _, some _, some _, some _, none]) (And.intro rfl (And.intro rfl (And.intro rfl (And.intro rfl (And.intro rfl (And.intro rfl (And.intro rfl (And.intro rfl True.intro)))))))) ?_
          exact kX7_fittingWinds_72 C (fun h => hk6 h) h
      · refine gj_drop (lv' := [some _, some _, some _, some _, some _, some _, some _, some _, none]) (And.intro rfl (And.intro rfl (And.intro rfl (And.intro rfl (And.intro rfl (And.intro rfl (And.intro rfl (And.intro rfl True.intro)))))))) ?_
        exact kX7_fittingWinds_72 C (fun h => hk6 h) h
set_option maxHeartbeats 4000000 in
set_option maxRecDepth 100000 in
theorem kX7_fittingWinds_6 {p : Program} {l : Launch} {e : Env} {s : State} {m : MethodId} {args : Array Value} {below : List Frame} {meth : Method} {c : Code} {D : va_G} {ad : Nat → Nat} {tc : Nat → ClassId} {A : Nat → Prop} (C : gj_C p s m args meth c D ad tc A cX7_fittingWinds 9 (some .int) RX7) {r : Int32} {w1 : ab_W} : ∀ {n : Nat} {x0 : Nat} {x1 : Nat} {x2 : Nat} {x3 : Nat} {x4 : Int32} {x5 : Int32} {x6 : Int32} {w : ab_W}, sX7_fittingWinds_6 n x0 x1 x2 x3 x4 x5 x6 w = some (r, w1) → gj_G p l e (gj_R 5) s m args below meth c D ad tc A 9 (gj_Qi D ad tc A below args s r w1) 6 [some (.ref x0), some (.ref x1), some (.ref x2), some (.ref x3), some (.int x4), some (.int x5), some (.int x6), none, none] [] w := by
  intro n
  induction n with
  | zero =>
    intros
    rename_i h
    cases h
  | succ n ih =>
    intro x0 x1 x2 x3 x4 x5 x6 w h
    rw [sX7_fittingWinds_6] at h
    refine gj_iload C (pc' := 8) (i := 6) rfl dX7_fittingWinds_6 rfl ?_
    refine gj_bipush C (pc' := 10) (v := 9) rfl dX7_fittingWinds_8 (by decide) ?_
    refine gj_icmp_gt C (pc' := 13) (tgt := 92) rfl dX7_fittingWinds_10 rfl h (fun h => ?_) (fun h => ?_)
    · refine gj_iload C (pc' := 94) (i := 5) rfl dX7_fittingWinds_92 rfl ?_
      exact gj_iret C dX7_fittingWinds_94 h
    · refine gj_iconst C (pc' := 14) (v := 1) rfl dX7_fittingWinds_13 (by decide) ?_
      refine gj_istore C (pc' := 16) (i := 7) (lv' := [_, _, _, _, _, _, _, _, _]) rfl dX7_fittingWinds_14 (by decide) rfl rfl ?_
      refine gj_iconst C (pc' := 17) (v := 0) rfl dX7_fittingWinds_16 (by decide) ?_
      refine gj_istore C (pc' := 19) (i := 8) (lv' := [_, _, _, _, _, _, _, _, _]) rfl dX7_fittingWinds_17 (by decide) rfl rfl ?_
      refine gj_drop (lv' := [some _, some _, some _, some _, some _, some _, some _, some _, some _]) (And.intro rfl (And.intro rfl (And.intro rfl (And.intro rfl (And.intro rfl (And.intro rfl (And.intro rfl (And.intro rfl (And.intro rfl True.intro))))))))) ?_
      exact kX7_fittingWinds_19 C (fun h => ih h) h
set_option maxHeartbeats 4000000 in
set_option maxRecDepth 100000 in
theorem kX7_fittingWinds : ∀ (x0 : Nat) (x1 : Nat) (x2 : Nat) (x3 : Nat) (x4 : Int32) (w : ab_W) (r : Int32) (w1 : ab_W), sX7_fittingWinds x0 x1 x2 x3 x4 w = some (r, w1) → gj_Mi yX7_fittingWinds cX7_fittingWinds 9 (some .int) 5 [.ref x0, .ref x1, .ref x2, .ref x3, .int x4] w r w1 ∧ ab_is w 7 x0 = true := by
  intro x0 x1 x2 x3 x4 w r w1 h
  unfold sX7_fittingWinds at h
  obtain ⟨hi, h⟩ := ab_ite h
  refine ⟨?_, hi⟩
  refine gj_Mi_of RX7 [some (.ref x0), some (.ref x1), some (.ref x2), some (.ref x3), some (.int x4), none, none, none, none] (by decide +kernel) rfl (Nat.le_of_ble_eq_true rfl) rfl (fun p l e s m args below meth c D ad tc A C => ?_)
  refine gj_iconst C (pc' := 1) (v := 0) rfl dX7_fittingWinds_0 (by decide) ?_
  refine gj_istore C (pc' := 3) (i := 5) (lv' := [_, _, _, _, _, _, _, _, _]) rfl dX7_fittingWinds_1 (by decide) rfl rfl ?_
  refine gj_iconst C (pc' := 4) (v := 0) rfl dX7_fittingWinds_3 (by decide) ?_
  refine gj_istore C (pc' := 6) (i := 6) (lv' := [_, _, _, _, _, _, _, _, _]) rfl dX7_fittingWinds_4 (by decide) rfl rfl ?_
  refine gj_drop (lv' := [some _, some _, some _, some _, some _, some _, some _, none, none]) (And.intro rfl (And.intro rfl (And.intro rfl (And.intro rfl (And.intro rfl (And.intro rfl (And.intro rfl True.intro))))))) ?_
  exact kX7_fittingWinds_6 C h
set_option maxHeartbeats 4000000 in
set_option maxRecDepth 100000 in
theorem kX9_fits_18 {p : Program} {l : Launch} {e : Env} {s : State} {m : MethodId} {args : Array Value} {below : List Frame} {meth : Method} {c : Code} {D : va_G} {ad : Nat → Nat} {tc : Nat → ClassId} {A : Nat → Prop} (C : gj_C p s m args meth c D ad tc A cX9_fits 5 (some .int) RX9) {r : Int32} {w1 : ab_W} {x0 : Nat} {w : ab_W} (h : sX9_fits_18 x0 w = some (r, w1)) : gj_G p l e (gj_R 6) s m args below meth c D ad tc A 5 (gj_Qi D ad tc A below args s r w1) 18 [some (.ref x0), none, none, none, none] [] w := by
  unfold sX9_fits_18 at h
  refine gj_aload_n C (pc' := 19) (i := 0) rfl dX9_fits_18 rfl rfl ?_
  refine gj_iconst C (pc' := 20) (v := 1) rfl dX9_fits_19 (by decide) ?_
  refine gj_callVi C (pc' := 23) rfl dX9_fits_20 wm_X9_66 uX9_fail h (kX9_fail _ _ _) (by omega) rfl rfl (Nat.le_of_ble_eq_true rfl) (fun v1 w2 h => ?_)
  exact gj_iret C dX9_fits_23 h
set_option maxHeartbeats 4000000 in
set_option maxRecDepth 100000 in
theorem kX9_fits_75 {p : Program} {l : Launch} {e : Env} {s : State} {m : MethodId} {args : Array Value} {below : List Frame} {meth : Method} {c : Code} {D : va_G} {ad : Nat → Nat} {tc : Nat → ClassId} {A : Nat → Prop} (C : gj_C p s m args meth c D ad tc A cX9_fits 5 (some .int) RX9) {r : Int32} {w1 : ab_W} {x0 : Nat} {w : ab_W} (h : sX9_fits_75 x0 w = some (r, w1)) : gj_G p l e (gj_R 6) s m args below meth c D ad tc A 5 (gj_Qi D ad tc A below args s r w1) 75 [some (.ref x0), none, none, none, none] [] w := by
  unfold sX9_fits_75 at h
  refine gj_aload_n C (pc' := 76) (i := 0) rfl dX9_fits_75 rfl rfl ?_
  refine gj_iconst C (pc' := 77) (v := 2) rfl dX9_fits_76 (by decide) ?_
  refine gj_callVi C (pc' := 80) rfl dX9_fits_77 wm_X9_66 uX9_fail h (kX9_fail _ _ _) (by omega) rfl rfl (Nat.le_of_ble_eq_true rfl) (fun v1 w2 h => ?_)
  exact gj_iret C dX9_fits_80 h
set_option maxHeartbeats 4000000 in
set_option maxRecDepth 100000 in
theorem kX9_fits : ∀ (x0 : Nat) (x1 : Int32) (x2 : Int32) (w : ab_W) (r : Int32) (w1 : ab_W), sX9_fits x0 x1 x2 w = some (r, w1) → gj_Mi yX9_fits cX9_fits 5 (some .int) 6 [.ref x0, .int x1, .int x2] w r w1 ∧ ab_is w 9 x0 = true := by
  intro x0 x1 x2 w r w1 h
  unfold sX9_fits at h
  obtain ⟨hi, h⟩ := ab_ite h
  refine ⟨?_, hi⟩
  refine gj_Mi_of RX9 [some (.ref x0), some (.int x1), some (.int x2), none, none] (by decide +kernel) rfl (Nat.le_of_ble_eq_true rfl) rfl (fun p l e s m args below meth c D ad tc A C => ?_)
  refine gj_iload_n C (pc' := 1) (i := 1) rfl dX9_fits_0 rfl rfl ?_
  refine gj_iconst C (pc' := 2) (v := 0) rfl dX9_fits_1 (by decide) ?_
  refine gj_iconst C (pc' := 3) (v := 3) rfl dX9_fits_2 (by decide) ?_
  refine gj_callSi C (pc' := 6) rfl dX9_fits_3 wm_X9_62 uX9_within h (kX9_within _ _ _ _) (by omega) rfl rfl (Nat.le_of_ble_eq_true rfl) (fun v1 w2 h => ?_)
  refine gj_if_eq C (pc' := 9) (tgt := 18) rfl dX9_fits_6 rfl h (fun h => ?_) (fun h => ?_)
  · refine gj_drop (lv' := [some _, none, none, none, none]) (And.intro rfl True.intro) ?_
    exact kX9_fits_18 C h
  · refine gj_iload_n C (pc' := 10) (i := 2) rfl dX9_fits_9 rfl rfl ?_
    refine gj_iconst C (pc' := 11) (v := 0) rfl dX9_fits_10 (by decide) ?_
    refine gj_iconst C (pc' := 12) (v := 1) rfl dX9_fits_11 (by decide) ?_
    refine gj_callSi C (pc' := 15) rfl dX9_fits_12 wm_X9_62 uX9_within h (kX9_within _ _ _ _) (by omega) rfl rfl (Nat.le_of_ble_eq_true rfl) (fun v3 w4 h => ?_)
    refine gj_if_ne C (pc' := 18) (tgt := 24) rfl dX9_fits_15 rfl h (fun h => ?_) (fun h => ?_)
    · refine gj_drop (lv' := [some _, none, none, none, none]) (And.intro rfl True.intro) ?_
      exact kX9_fits_18 C h
    · refine gj_aload_n C (pc' := 25) (i := 0) rfl dX9_fits_24 rfl rfl ?_
      refine gj_getR C (pc' := 28) rfl dX9_fits_25 wf_X9_15 h (fun v5 h => ?_)
      refine gj_iload_n C (pc' := 29) (i := 1) rfl dX9_fits_28 rfl rfl ?_
      refine gj_rald C (pc' := 30) (t := 3) rfl dX9_fits_29 rfl h (fun v6 h => ?_)
      refine gj_astore_n C (pc' := 31) (i := 3) (lv' := [_, _, _, _, _]) rfl dX9_fits_30 rfl (by decide) rfl rfl ?_
      refine gj_aload_n C (pc' := 32) (i := 3) rfl dX9_fits_31 rfl rfl ?_
      refine gj_callVi C (pc' := 35) rfl dX9_fits_32 wm_X9_226 uX5_isMissing h (kX5_isMissing _ _) (by omega) rfl rfl (Nat.le_of_ble_eq_true rfl) (fun v7 w8 h => ?_)
      refine gj_if_ne C (pc' := 38) (tgt := 75) rfl dX9_fits_35 rfl h (fun h => ?_) (fun h => ?_)
      · refine gj_aload_n C (pc' := 39) (i := 3) rfl dX9_fits_38 rfl rfl ?_
        refine gj_getI C (pc' := 42) rfl dX9_fits_39 wf_X9_230 h (fun v9 h => ?_)
        refine gj_aload_n C (pc' := 43) (i := 0) rfl dX9_fits_42 rfl rfl ?_
        refine gj_getR C (pc' := 46) rfl dX9_fits_43 wf_X9_30 h (fun v10 h => ?_)
        refine gj_getI C (pc' := 49) rfl dX9_fits_46 wf_X9_70 h (fun v11 h => ?_)
        refine gj_iconst C (pc' := 50) (v := 1) rfl dX9_fits_49 (by decide) ?_
        refine gj_iadd C (pc' := 51) rfl dX9_fits_50 ?_
        refine gj_icmp_ne C (pc' := 54) (tgt := 75) rfl dX9_fits_51 rfl h (fun h => ?_) (fun h => ?_)
        · refine gj_aload_n C (pc' := 55) (i := 3) rfl dX9_fits_54 rfl rfl ?_
          refine gj_getR C (pc' := 58) rfl dX9_fits_55 wf_X9_231 h (fun v12 h => ?_)
          refine gj_aload_n C (pc' := 59) (i := 0) rfl dX9_fits_58 rfl rfl ?_
          refine gj_getR C (pc' := 62) rfl dX9_fits_59 wf_X9_30 h (fun v13 h => ?_)
          refine gj_getI C (pc' := 65) rfl dX9_fits_62 wf_X9_70 h (fun v14 h => ?_)
          refine gj_iald C (pc' := 66) rfl dX9_fits_65 h (fun v15 h => ?_)
          refine gj_iconst C (pc' := 67) (v := 0) rfl dX9_fits_66 (by decide) ?_
          refine gj_bipush C (pc' := 69) (v := 60) rfl dX9_fits_67 (by decide) ?_
          refine gj_callSi C (pc' := 72) rfl dX9_fits_69 wm_X9_62 uX9_within h (kX9_within _ _ _ _) (by omega) rfl rfl (Nat.le_of_ble_eq_true rfl) (fun v16 w17 h => ?_)
          refine gj_if_ne C (pc' := 75) (tgt := 81) rfl dX9_fits_72 rfl h (fun h => ?_) (fun h => ?_)
          · refine gj_drop (lv' := [some _, none, none, none, none]) (And.intro rfl True.intro) ?_
            exact kX9_fits_75 C h
          · refine gj_aload_n C (pc' := 82) (i := 0) rfl dX9_fits_81 rfl rfl ?_
            refine gj_getR C (pc' := 85) rfl dX9_fits_82 wf_X9_40 h (fun v18 h => ?_)
            refine gj_aload_n C (pc' := 86) (i := 0) rfl dX9_fits_85 rfl rfl ?_
            refine gj_getR C (pc' := 89) rfl dX9_fits_86 wf_X9_30 h (fun v19 h => ?_)
            refine gj_aload_n C (pc' := 90) (i := 0) rfl dX9_fits_89 rfl rfl ?_
            refine gj_getR C (pc' := 93) rfl dX9_fits_90 wf_X9_23 h (fun v20 h => ?_)
            refine gj_aload_n C (pc' := 94) (i := 3) rfl dX9_fits_93 rfl rfl ?_
            refine gj_getR C (pc' := 97) rfl dX9_fits_94 wf_X9_231 h (fun v21 h => ?_)
            refine gj_aload_n C (pc' := 98) (i := 3) rfl dX9_fits_97 rfl rfl ?_
            refine gj_getR C (pc' := 101) rfl dX9_fits_98 wf_X9_231 h (fun v22 h => ?_)
            refine gj_aload_n C (pc' := 102) (i := 0) rfl dX9_fits_101 rfl rfl ?_
            refine gj_getR C (pc' := 105) rfl dX9_fits_102 wf_X9_30 h (fun v23 h => ?_)
            refine gj_getI C (pc' := 108) rfl dX9_fits_105 wf_X9_70 h (fun v24 h => ?_)
            refine gj_iald C (pc' := 109) rfl dX9_fits_108 h (fun v25 h => ?_)
            refine gj_callVi C (pc' := 112) rfl dX9_fits_109 wm_X9_234 uX7_fittingWinds h (kX7_fittingWinds _ _ _ _ _ _) (by omega) rfl rfl (Nat.le_of_ble_eq_true rfl) (fun v26 w27 h => ?_)
            refine gj_istore C (pc' := 114) (i := 4) (lv' := [_, _, _, _, _]) rfl dX9_fits_112 (by decide) rfl rfl ?_
            refine gj_iload_n C (pc' := 115) (i := 2) rfl dX9_fits_114 rfl rfl ?_
            refine gj_if_ne C (pc' := 118) (tgt := 123) rfl dX9_fits_115 rfl h (fun h => ?_) (fun h => ?_)
            · refine gj_iload C (pc' := 120) (i := 4) rfl dX9_fits_118 rfl ?_
              refine gj_goto C (tgt := 128) dX9_fits_120 rfl ?_
              exact gj_iret C dX9_fits_128 h
            · refine gj_iload C (pc' := 125) (i := 4) rfl dX9_fits_123 rfl ?_
              refine gj_callSi C (pc' := 128) rfl dX9_fits_125 wm_X9_238 uJ6_bitCount_0f7a4 h (kJ6_bitCount_0f7a4 _ _) (by omega) rfl rfl (Nat.le_of_ble_eq_true rfl) (fun v28 w29 h => ?_)
              exact gj_iret C dX9_fits_128 h
        · refine gj_drop (lv' := [some _, none, none, none, none]) (And.intro rfl True.intro) ?_
          exact kX9_fits_75 C h
      · refine gj_drop (lv' := [some _, none, none, none, none]) (And.intro rfl True.intro) ?_
        exact kX9_fits_75 C h
set_option maxHeartbeats 4000000 in
set_option maxRecDepth 100000 in
theorem kX7_debtOfAllBehind_6 {p : Program} {l : Launch} {e : Env} {s : State} {m : MethodId} {args : Array Value} {below : List Frame} {meth : Method} {c : Code} {D : va_G} {ad : Nat → Nat} {tc : Nat → ClassId} {A : Nat → Prop} (C : gj_C p s m args meth c D ad tc A cX7_debtOfAllBehind 6 (some .int) RX7) {r : Int32} {w1 : ab_W} : ∀ {n : Nat} {x0 : Nat} {x1 : Nat} {x2 : Nat} {x3 : Int32} {x4 : Int32} {x5 : Int32} {w : ab_W}, sX7_debtOfAllBehind_6 n x0 x1 x2 x3 x4 x5 w = some (r, w1) → gj_G p l e (gj_R 6) s m args below meth c D ad tc A 6 (gj_Qi D ad tc A below args s r w1) 6 [some (.ref x0), some (.ref x1), some (.ref x2), some (.int x3), some (.int x4), some (.int x5)] [] w := by
  intro n
  induction n with
  | zero =>
    intros
    rename_i h
    cases h
  | succ n ih =>
    intro x0 x1 x2 x3 x4 x5 w h
    rw [sX7_debtOfAllBehind_6] at h
    refine gj_iload C (pc' := 8) (i := 5) rfl dX7_debtOfAllBehind_6 rfl ?_
    refine gj_aload_n C (pc' := 9) (i := 1) rfl dX7_debtOfAllBehind_8 rfl rfl ?_
    refine gj_getI C (pc' := 12) rfl dX7_debtOfAllBehind_9 wf_X7_35 h (fun v1 h => ?_)
    refine gj_icmp_ge C (pc' := 15) (tgt := 45) rfl dX7_debtOfAllBehind_12 rfl h (fun h => ?_) (fun h => ?_)
    · refine gj_iload C (pc' := 17) (i := 4) rfl dX7_debtOfAllBehind_15 rfl ?_
      refine gj_aload_n C (pc' := 18) (i := 0) rfl dX7_debtOfAllBehind_17 rfl rfl ?_
      refine gj_aload_n C (pc' := 19) (i := 1) rfl dX7_debtOfAllBehind_18 rfl rfl ?_
      refine gj_aload_n C (pc' := 20) (i := 2) rfl dX7_debtOfAllBehind_19 rfl rfl ?_
      refine gj_iload C (pc' := 22) (i := 5) rfl dX7_debtOfAllBehind_20 rfl ?_
      refine gj_aload_n C (pc' := 23) (i := 1) rfl dX7_debtOfAllBehind_22 rfl rfl ?_
      refine gj_getR C (pc' := 26) rfl dX7_debtOfAllBehind_23 wf_X7_40 h (fun v2 h => ?_)
      refine gj_iload C (pc' := 28) (i := 5) rfl dX7_debtOfAllBehind_26 rfl ?_
      refine gj_rald C (pc' := 29) (t := 1) rfl dX7_debtOfAllBehind_28 rfl h (fun v3 h => ?_)
      refine gj_getI C (pc' := 32) rfl dX7_debtOfAllBehind_29 wf_X7_44 h (fun v4 h => ?_)
      refine gj_iload_n C (pc' := 33) (i := 3) rfl dX7_debtOfAllBehind_32 rfl rfl ?_
      refine gj_callVi C (pc' := 36) rfl dX7_debtOfAllBehind_33 wm_X7_50 uX7_debtBehind h (kX7_debtBehind _ _ _ _ _ _ _) (by omega) rfl rfl (Nat.le_of_ble_eq_true rfl) (fun v5 w6 h => ?_)
      refine gj_iadd C (pc' := 37) rfl dX7_debtOfAllBehind_36 ?_
      refine gj_istore C (pc' := 39) (i := 4) (lv' := [_, _, _, _, _, _]) rfl dX7_debtOfAllBehind_37 (by decide) rfl rfl ?_
      refine gj_iinc C (pc' := 42) (i := 5) (v := _ + 1) (lv' := [_, _, _, _, _, _]) rfl dX7_debtOfAllBehind_39 rfl rfl (by decide) rfl rfl ?_
      refine gj_goto C (tgt := 6) dX7_debtOfAllBehind_42 rfl ?_
      refine gj_drop (lv' := [some _, some _, some _, some _, some _, some _]) (And.intro rfl (And.intro rfl (And.intro rfl (And.intro rfl (And.intro rfl (And.intro rfl True.intro)))))) ?_
      exact ih h
    · refine gj_iload C (pc' := 47) (i := 4) rfl dX7_debtOfAllBehind_45 rfl ?_
      exact gj_iret C dX7_debtOfAllBehind_47 h
set_option maxHeartbeats 4000000 in
set_option maxRecDepth 100000 in
theorem kX7_debtOfAllBehind : ∀ (x0 : Nat) (x1 : Nat) (x2 : Nat) (x3 : Int32) (w : ab_W) (r : Int32) (w1 : ab_W), sX7_debtOfAllBehind x0 x1 x2 x3 w = some (r, w1) → gj_Mi yX7_debtOfAllBehind cX7_debtOfAllBehind 6 (some .int) 6 [.ref x0, .ref x1, .ref x2, .int x3] w r w1 ∧ ab_is w 7 x0 = true := by
  intro x0 x1 x2 x3 w r w1 h
  unfold sX7_debtOfAllBehind at h
  obtain ⟨hi, h⟩ := ab_ite h
  refine ⟨?_, hi⟩
  refine gj_Mi_of RX7 [some (.ref x0), some (.ref x1), some (.ref x2), some (.int x3), none, none] (by decide +kernel) rfl (Nat.le_of_ble_eq_true rfl) rfl (fun p l e s m args below meth c D ad tc A C => ?_)
  refine gj_iconst C (pc' := 1) (v := 0) rfl dX7_debtOfAllBehind_0 (by decide) ?_
  refine gj_istore C (pc' := 3) (i := 4) (lv' := [_, _, _, _, _, _]) rfl dX7_debtOfAllBehind_1 (by decide) rfl rfl ?_
  refine gj_iconst C (pc' := 4) (v := 0) rfl dX7_debtOfAllBehind_3 (by decide) ?_
  refine gj_istore C (pc' := 6) (i := 5) (lv' := [_, _, _, _, _, _]) rfl dX7_debtOfAllBehind_4 (by decide) rfl rfl ?_
  refine gj_drop (lv' := [some _, some _, some _, some _, some _, some _]) (And.intro rfl (And.intro rfl (And.intro rfl (And.intro rfl (And.intro rfl (And.intro rfl True.intro)))))) ?_
  exact kX7_debtOfAllBehind_6 C h
set_option maxHeartbeats 4000000 in
set_option maxRecDepth 100000 in
theorem kX9_owed : ∀ (x0 : Nat) (x1 : Int32) (w : ab_W) (r : Int32) (w1 : ab_W), sX9_owed x0 x1 w = some (r, w1) → gj_Mi yX9_owed cX9_owed 2 (some .int) 7 [.ref x0, .int x1] w r w1 ∧ ab_is w 9 x0 = true := by
  intro x0 x1 w r w1 h
  unfold sX9_owed at h
  obtain ⟨hi, h⟩ := ab_ite h
  refine ⟨?_, hi⟩
  refine gj_Mi_of RX9 [some (.ref x0), some (.int x1)] (by decide +kernel) rfl (Nat.le_of_ble_eq_true rfl) rfl (fun p l e s m args below meth c D ad tc A C => ?_)
  refine gj_iload_n C (pc' := 1) (i := 1) rfl dX9_owed_0 rfl rfl ?_
  refine gj_iconst C (pc' := 2) (v := 0) rfl dX9_owed_1 (by decide) ?_
  refine gj_bipush C (pc' := 4) (v := 60) rfl dX9_owed_2 (by decide) ?_
  refine gj_callSi C (pc' := 7) rfl dX9_owed_4 wm_X9_62 uX9_within h (kX9_within _ _ _ _) (by omega) rfl rfl (Nat.le_of_ble_eq_true rfl) (fun v1 w2 h => ?_)
  refine gj_if_ne C (pc' := 10) (tgt := 16) rfl dX9_owed_7 rfl h (fun h => ?_) (fun h => ?_)
  · refine gj_aload_n C (pc' := 11) (i := 0) rfl dX9_owed_10 rfl rfl ?_
    refine gj_iconst C (pc' := 12) (v := 1) rfl dX9_owed_11 (by decide) ?_
    refine gj_callVi C (pc' := 15) rfl dX9_owed_12 wm_X9_66 uX9_fail h (kX9_fail _ _ _) (by omega) rfl rfl (Nat.le_of_ble_eq_true rfl) (fun v3 w4 h => ?_)
    exact gj_iret C dX9_owed_15 h
  · refine gj_aload_n C (pc' := 17) (i := 0) rfl dX9_owed_16 rfl rfl ?_
    refine gj_getR C (pc' := 20) rfl dX9_owed_17 wf_X9_40 h (fun v5 h => ?_)
    refine gj_aload_n C (pc' := 21) (i := 0) rfl dX9_owed_20 rfl rfl ?_
    refine gj_getR C (pc' := 24) rfl dX9_owed_21 wf_X9_30 h (fun v6 h => ?_)
    refine gj_aload_n C (pc' := 25) (i := 0) rfl dX9_owed_24 rfl rfl ?_
    refine gj_getR C (pc' := 28) rfl dX9_owed_25 wf_X9_23 h (fun v7 h => ?_)
    refine gj_iload_n C (pc' := 29) (i := 1) rfl dX9_owed_28 rfl rfl ?_
    refine gj_callVi C (pc' := 32) rfl dX9_owed_29 wm_X9_243 uX7_debtOfAllBehind h (kX7_debtOfAllBehind _ _ _ _ _) (by omega) rfl rfl (Nat.le_of_ble_eq_true rfl) (fun v8 w9 h => ?_)
    exact gj_iret C dX9_owed_32 h
set_option maxHeartbeats 4000000 in
set_option maxRecDepth 100000 in
theorem kX7_bestDebtor_76 {p : Program} {l : Launch} {e : Env} {s : State} {m : MethodId} {args : Array Value} {below : List Frame} {meth : Method} {c : Code} {D : va_G} {ad : Nat → Nat} {tc : Nat → ClassId} {A : Nat → Prop} (C : gj_C p s m args meth c D ad tc A cX7_bestDebtor 9 (some .int) RX7) {r : Int32} {w1 : ab_W} {k9 : Nat → Nat → Nat → Int32 → Int32 → Int32 → Int32 → ab_W → Option (Int32 × ab_W)} (hk9 : ∀ {x0 : Nat} {x1 : Nat} {x2 : Nat} {x3 : Int32} {x4 : Int32} {x5 : Int32} {x6 : Int32} {w : ab_W}, k9 x0 x1 x2 x3 x4 x5 x6 w = some (r, w1) → gj_G p l e (gj_R 6) s m args below meth c D ad tc A 9 (gj_Qi D ad tc A below args s r w1) 9 [some (.ref x0), some (.ref x1), some (.ref x2), some (.int x3), some (.int x4), some (.int x5), some (.int x6), none, none] [] w) {x0 : Nat} {x1 : Nat} {x2 : Nat} {x3 : Int32} {x4 : Int32} {x5 : Int32} {x6 : Int32} {w : ab_W} (h : sX7_bestDebtor_76 k9 x0 x1 x2 x3 x4 x5 x6 w = some (r, w1)) : gj_G p l e (gj_R 6) s m args below meth c D ad tc A 9 (gj_Qi D ad tc A below args s r w1) 76 [some (.ref x0), some (.ref x1), some (.ref x2), some (.int x3), some (.int x4), some (.int x5), some (.int x6), none, none] [] w := by
  unfold sX7_bestDebtor_76 at h
  refine gj_iinc C (pc' := 79) (i := 6) (v := _ + 1) (lv' := [_, _, _, _, _, _, _, _, _]) rfl dX7_bestDebtor_76 rfl rfl (by decide) rfl rfl ?_
  refine gj_goto C (tgt := 9) dX7_bestDebtor_79 rfl ?_
  refine gj_drop (lv' := [some _, some _, some _, some _, some _, some _, some _, none, none]) (And.intro rfl (And.intro rfl (And.intro rfl (And.intro rfl (And.intro rfl (And.intro rfl (And.intro rfl True.intro))))))) ?_
  exact hk9 h
set_option maxHeartbeats 4000000 in
set_option maxRecDepth 100000 in
theorem kX7_bestDebtor_61 {p : Program} {l : Launch} {e : Env} {s : State} {m : MethodId} {args : Array Value} {below : List Frame} {meth : Method} {c : Code} {D : va_G} {ad : Nat → Nat} {tc : Nat → ClassId} {A : Nat → Prop} (C : gj_C p s m args meth c D ad tc A cX7_bestDebtor 9 (some .int) RX7) {r : Int32} {w1 : ab_W} {k9 : Nat → Nat → Nat → Int32 → Int32 → Int32 → Int32 → ab_W → Option (Int32 × ab_W)} (hk9 : ∀ {x0 : Nat} {x1 : Nat} {x2 : Nat} {x3 : Int32} {x4 : Int32} {x5 : Int32} {x6 : Int32} {w : ab_W}, k9 x0 x1 x2 x3 x4 x5 x6 w = some (r, w1) → gj_G p l e (gj_R 6) s m args below meth c D ad tc A 9 (gj_Qi D ad tc A below args s r w1) 9 [some (.ref x0), some (.ref x1), some (.ref x2), some (.int x3), some (.int x4), some (.int x5), some (.int x6), none, none] [] w) {x0 : Nat} {x1 : Nat} {x2 : Nat} {x3 : Int32} {x4 : Int32} {x5 : Int32} {x6 : Int32} {x8 : Int32} {w : ab_W} (h : sX7_bestDebtor_61 k9 x0 x1 x2 x3 x4 x5 x6 x8 w = some (r, w1)) : gj_G p l e (gj_R 6) s m args below meth c D ad tc A 9 (gj_Qi D ad tc A below args s r w1) 61 [some (.ref x0), some (.ref x1), some (.ref x2), some (.int x3), some (.int x4), some (.int x5), some (.int x6), none, some (.int x8)] [] w := by
  unfold sX7_bestDebtor_61 at h
  refine gj_iload C (pc' := 63) (i := 8) rfl dX7_bestDebtor_61 rfl ?_
  refine gj_iload C (pc' := 65) (i := 5) rfl dX7_bestDebtor_63 rfl ?_
  refine gj_icmp_le C (pc' := 68) (tgt := 76) rfl dX7_bestDebtor_65 rfl h (fun h => ?_) (fun h => ?_)
  · refine gj_iload C (pc' := 70) (i := 8) rfl dX7_bestDebtor_68 rfl ?_
    refine gj_istore C (pc' := 72) (i := 5) (lv' := [_, _, _, _, _, _, _, _, _]) rfl dX7_bestDebtor_70 (by decide) rfl rfl ?_
    refine gj_iload C (pc' := 74) (i := 6) rfl dX7_bestDebtor_72 rfl ?_
    refine gj_istore C (pc' := 76) (i := 4) (lv' := [_, _, _, _, _, _, _, _, _]) rfl dX7_bestDebtor_74 (by decide) rfl rfl ?_
    refine gj_drop (lv' := [some _, some _, some _, some _, some _, some _, some _, none, none]) (And.intro rfl (And.intro rfl (And.intro rfl (And.intro rfl (And.intro rfl (And.intro rfl (And.intro rfl True.intro))))))) ?_
    exact kX7_bestDebtor_76 C (fun h => hk9 h) h
  · refine gj_drop (lv' := [some _, some _, some _, some _, some _, some _, some _, none, none]) (And.intro rfl (And.intro rfl (And.intro rfl (And.intro rfl (And.intro rfl (And.intro rfl (And.intro rfl True.intro))))))) ?_
    exact kX7_bestDebtor_76 C (fun h => hk9 h) h
set_option maxHeartbeats 4000000 in
set_option maxRecDepth 100000 in
theorem kX7_bestDebtor_9 {p : Program} {l : Launch} {e : Env} {s : State} {m : MethodId} {args : Array Value} {below : List Frame} {meth : Method} {c : Code} {D : va_G} {ad : Nat → Nat} {tc : Nat → ClassId} {A : Nat → Prop} (C : gj_C p s m args meth c D ad tc A cX7_bestDebtor 9 (some .int) RX7) {r : Int32} {w1 : ab_W} : ∀ {n : Nat} {x0 : Nat} {x1 : Nat} {x2 : Nat} {x3 : Int32} {x4 : Int32} {x5 : Int32} {x6 : Int32} {w : ab_W}, sX7_bestDebtor_9 n x0 x1 x2 x3 x4 x5 x6 w = some (r, w1) → gj_G p l e (gj_R 6) s m args below meth c D ad tc A 9 (gj_Qi D ad tc A below args s r w1) 9 [some (.ref x0), some (.ref x1), some (.ref x2), some (.int x3), some (.int x4), some (.int x5), some (.int x6), none, none] [] w := by
  intro n
  induction n with
  | zero =>
    intros
    rename_i h
    cases h
  | succ n ih =>
    intro x0 x1 x2 x3 x4 x5 x6 w h
    rw [sX7_bestDebtor_9] at h
    refine gj_iload C (pc' := 11) (i := 6) rfl dX7_bestDebtor_9 rfl ?_
    refine gj_aload_n C (pc' := 12) (i := 1) rfl dX7_bestDebtor_11 rfl rfl ?_
    refine gj_getI C (pc' := 15) rfl dX7_bestDebtor_12 wf_X7_35 h (fun v1 h => ?_)
    refine gj_icmp_ge C (pc' := 18) (tgt := 82) rfl dX7_bestDebtor_15 rfl h (fun h => ?_) (fun h => ?_)
    · refine gj_aload_n C (pc' := 19) (i := 1) rfl dX7_bestDebtor_18 rfl rfl ?_
      refine gj_getR C (pc' := 22) rfl dX7_bestDebtor_19 wf_X7_40 h (fun v2 h => ?_)
      refine gj_iload C (pc' := 24) (i := 6) rfl dX7_bestDebtor_22 rfl ?_
      refine gj_rald C (pc' := 25) (t := 1) rfl dX7_bestDebtor_24 rfl h (fun v3 h => ?_)
      refine gj_getI C (pc' := 28) rfl dX7_bestDebtor_25 wf_X7_44 h (fun v4 h => ?_)
      refine gj_istore C (pc' := 30) (i := 7) (lv' := [_, _, _, _, _, _, _, _, _]) rfl dX7_bestDebtor_28 (by decide) rfl rfl ?_
      refine gj_iconst C (pc' := 31) (v := 0) rfl dX7_bestDebtor_30 (by decide) ?_
      refine gj_istore C (pc' := 33) (i := 8) (lv' := [_, _, _, _, _, _, _, _, _]) rfl dX7_bestDebtor_31 (by decide) rfl rfl ?_
      refine gj_iload C (pc' := 35) (i := 7) rfl dX7_bestDebtor_33 rfl ?_
      refine gj_if_ne C (pc' := 38) (tgt := 61) rfl dX7_bestDebtor_35 rfl h (fun h => ?_) (fun h => ?_)
      · refine gj_aload_n C (pc' := 39) (i := 1) rfl dX7_bestDebtor_38 rfl rfl ?_
        refine gj_getR C (pc' := 42) rfl dX7_bestDebtor_39 wf_X7_40 h (fun v5 h => ?_)
        refine gj_iload C (pc' := 44) (i := 6) rfl dX7_bestDebtor_42 rfl ?_
        refine gj_rald C (pc' := 45) (t := 1) rfl dX7_bestDebtor_44 rfl h (fun v6 h => ?_)
        refine gj_getI C (pc' := 48) rfl dX7_bestDebtor_45 wf_X7_54 h (fun v7 h => ?_)
        refine gj_aload_n C (pc' := 49) (i := 0) rfl dX7_bestDebtor_48 rfl rfl ?_
        refine gj_aload_n C (pc' := 50) (i := 1) rfl dX7_bestDebtor_49 rfl rfl ?_
        refine gj_aload_n C (pc' := 51) (i := 2) rfl dX7_bestDebtor_50 rfl rfl ?_
        refine gj_iload C (pc' := 53) (i := 6) rfl dX7_bestDebtor_51 rfl ?_
        refine gj_iconst C (pc' := 54) (v := 1) rfl dX7_bestDebtor_53 (by decide) ?_
        refine gj_iload_n C (pc' := 55) (i := 3) rfl dX7_bestDebtor_54 rfl rfl ?_
        refine gj_callVi C (pc' := 58) rfl dX7_bestDebtor_55 wm_X7_50 uX7_debtBehind h (kX7_debtBehind _ _ _ _ _ _ _) (by omega) rfl rfl (Nat.le_of_ble_eq_true rfl) (fun v8 w9 h => ?_)
        refine gj_isub C (pc' := 59) rfl dX7_bestDebtor_58 ?_
        refine gj_istore C (pc' := 61) (i := 8) (lv' := [_, _, _, _, _, _, _, _, _]) rfl dX7_bestDebtor_59 (by decide) rfl rfl ?_
        refine gj_drop (lv' := [some _, some _, some _, some _, some _, some _, some _, none, some _]) (And.intro rfl (And.intro rfl (And.intro rfl (And.intro rfl (And.intro rfl (And.intro rfl (And.intro rfl (And.intro rfl True.intro)))))))) ?_
        exact kX7_bestDebtor_61 C (fun h => ih h) h
      · refine gj_drop (lv' := [some _, some _, some _, some _, some _, some _, some _, none, some _]) (And.intro rfl (And.intro rfl (And.intro rfl (And.intro rfl (And.intro rfl (And.intro rfl (And.intro rfl (And.intro rfl True.intro)))))))) ?_
        exact kX7_bestDebtor_61 C (fun h => ih h) h
    · refine gj_iload C (pc' := 84) (i := 4) rfl dX7_bestDebtor_82 rfl ?_
      exact gj_iret C dX7_bestDebtor_84 h
set_option maxHeartbeats 4000000 in
set_option maxRecDepth 100000 in
theorem kX7_bestDebtor : ∀ (x0 : Nat) (x1 : Nat) (x2 : Nat) (x3 : Int32) (w : ab_W) (r : Int32) (w1 : ab_W), sX7_bestDebtor x0 x1 x2 x3 w = some (r, w1) → gj_Mi yX7_bestDebtor cX7_bestDebtor 9 (some .int) 6 [.ref x0, .ref x1, .ref x2, .int x3] w r w1 ∧ ab_is w 7 x0 = true := by
  intro x0 x1 x2 x3 w r w1 h
  unfold sX7_bestDebtor at h
  obtain ⟨hi, h⟩ := ab_ite h
  refine ⟨?_, hi⟩
  refine gj_Mi_of RX7 [some (.ref x0), some (.ref x1), some (.ref x2), some (.int x3), none, none, none, none, none] (by decide +kernel) rfl (Nat.le_of_ble_eq_true rfl) rfl (fun p l e s m args below meth c D ad tc A C => ?_)
  refine gj_iconst C (pc' := 1) (v := (-1)) rfl dX7_bestDebtor_0 (by decide) ?_
  refine gj_istore C (pc' := 3) (i := 4) (lv' := [_, _, _, _, _, _, _, _, _]) rfl dX7_bestDebtor_1 (by decide) rfl rfl ?_
  refine gj_iconst C (pc' := 4) (v := (-1)) rfl dX7_bestDebtor_3 (by decide) ?_
  refine gj_istore C (pc' := 6) (i := 5) (lv' := [_, _, _, _, _, _, _, _, _]) rfl dX7_bestDebtor_4 (by decide) rfl rfl ?_
  refine gj_iconst C (pc' := 7) (v := 0) rfl dX7_bestDebtor_6 (by decide) ?_
  refine gj_istore C (pc' := 9) (i := 6) (lv' := [_, _, _, _, _, _, _, _, _]) rfl dX7_bestDebtor_7 (by decide) rfl rfl ?_
  refine gj_drop (lv' := [some _, some _, some _, some _, some _, some _, some _, none, none]) (And.intro rfl (And.intro rfl (And.intro rfl (And.intro rfl (And.intro rfl (And.intro rfl (And.intro rfl True.intro))))))) ?_
  exact kX7_bestDebtor_9 C h
set_option maxHeartbeats 4000000 in
set_option maxRecDepth 100000 in
theorem kX9_debtor : ∀ (x0 : Nat) (x1 : Int32) (w : ab_W) (r : Int32) (w1 : ab_W), sX9_debtor x0 x1 w = some (r, w1) → gj_Mi yX9_debtor cX9_debtor 2 (some .int) 7 [.ref x0, .int x1] w r w1 ∧ ab_is w 9 x0 = true := by
  intro x0 x1 w r w1 h
  unfold sX9_debtor at h
  obtain ⟨hi, h⟩ := ab_ite h
  refine ⟨?_, hi⟩
  refine gj_Mi_of RX9 [some (.ref x0), some (.int x1)] (by decide +kernel) rfl (Nat.le_of_ble_eq_true rfl) rfl (fun p l e s m args below meth c D ad tc A C => ?_)
  refine gj_iload_n C (pc' := 1) (i := 1) rfl dX9_debtor_0 rfl rfl ?_
  refine gj_iconst C (pc' := 2) (v := 0) rfl dX9_debtor_1 (by decide) ?_
  refine gj_bipush C (pc' := 4) (v := 30) rfl dX9_debtor_2 (by decide) ?_
  refine gj_callSi C (pc' := 7) rfl dX9_debtor_4 wm_X9_62 uX9_within h (kX9_within _ _ _ _) (by omega) rfl rfl (Nat.le_of_ble_eq_true rfl) (fun v1 w2 h => ?_)
  refine gj_if_ne C (pc' := 10) (tgt := 16) rfl dX9_debtor_7 rfl h (fun h => ?_) (fun h => ?_)
  · refine gj_aload_n C (pc' := 11) (i := 0) rfl dX9_debtor_10 rfl rfl ?_
    refine gj_iconst C (pc' := 12) (v := 1) rfl dX9_debtor_11 (by decide) ?_
    refine gj_callVi C (pc' := 15) rfl dX9_debtor_12 wm_X9_66 uX9_fail h (kX9_fail _ _ _) (by omega) rfl rfl (Nat.le_of_ble_eq_true rfl) (fun v3 w4 h => ?_)
    exact gj_iret C dX9_debtor_15 h
  · refine gj_aload_n C (pc' := 17) (i := 0) rfl dX9_debtor_16 rfl rfl ?_
    refine gj_aload_n C (pc' := 18) (i := 0) rfl dX9_debtor_17 rfl rfl ?_
    refine gj_getR C (pc' := 21) rfl dX9_debtor_18 wf_X9_40 h (fun v5 h => ?_)
    refine gj_aload_n C (pc' := 22) (i := 0) rfl dX9_debtor_21 rfl rfl ?_
    refine gj_getR C (pc' := 25) rfl dX9_debtor_22 wf_X9_30 h (fun v6 h => ?_)
    refine gj_aload_n C (pc' := 26) (i := 0) rfl dX9_debtor_25 rfl rfl ?_
    refine gj_getR C (pc' := 29) rfl dX9_debtor_26 wf_X9_23 h (fun v7 h => ?_)
    refine gj_iload_n C (pc' := 30) (i := 1) rfl dX9_debtor_29 rfl rfl ?_
    refine gj_callVi C (pc' := 33) rfl dX9_debtor_30 wm_X9_247 uX7_bestDebtor h (kX7_bestDebtor _ _ _ _ _) (by omega) rfl rfl (Nat.le_of_ble_eq_true rfl) (fun v8 w9 h => ?_)
    refine gj_callVi C (pc' := 36) rfl dX9_debtor_33 wm_X9_179 uX9_orNone h (kX9_orNone _ _ _) (by omega) rfl rfl (Nat.le_of_ble_eq_true rfl) (fun v10 w11 h => ?_)
    exact gj_iret C dX9_debtor_36 h
set_option maxHeartbeats 4000000 in
set_option maxRecDepth 100000 in
theorem kX6_foldableSets_32 {p : Program} {l : Launch} {e : Env} {s : State} {m : MethodId} {args : Array Value} {below : List Frame} {meth : Method} {c : Code} {D : va_G} {ad : Nat → Nat} {tc : Nat → ClassId} {A : Nat → Prop} (C : gj_C p s m args meth c D ad tc A cX6_foldableSets 5 (some .int) RX6) {r : Int32} {w1 : ab_W} {k10 : Nat → Int32 → Int32 → Int32 → ab_W → Option (Int32 × ab_W)} (hk10 : ∀ {x0 : Nat} {x2 : Int32} {x3 : Int32} {x4 : Int32} {w : ab_W}, k10 x0 x2 x3 x4 w = some (r, w1) → gj_G p l e (gj_R 1) s m args below meth c D ad tc A 5 (gj_Qi D ad tc A below args s r w1) 10 [some (.ref x0), none, some (.int x2), some (.int x3), some (.int x4)] [] w) {x0 : Nat} {x2 : Int32} {x3 : Int32} {x4 : Int32} {w : ab_W} (h : sX6_foldableSets_32 k10 x0 x2 x3 x4 w = some (r, w1)) : gj_G p l e (gj_R 1) s m args below meth c D ad tc A 5 (gj_Qi D ad tc A below args s r w1) 32 [some (.ref x0), none, some (.int x2), some (.int x3), some (.int x4)] [] w := by
  unfold sX6_foldableSets_32 at h
  refine gj_iinc C (pc' := 35) (i := 4) (v := _ + 1) (lv' := [_, _, _, _, _]) rfl dX6_foldableSets_32 rfl rfl (by decide) rfl rfl ?_
  refine gj_goto C (tgt := 10) dX6_foldableSets_35 rfl ?_
  refine gj_drop (lv' := [some _, none, some _, some _, some _]) (And.intro rfl (And.intro rfl (And.intro rfl (And.intro rfl True.intro)))) ?_
  exact hk10 h
set_option maxHeartbeats 4000000 in
set_option maxRecDepth 100000 in
theorem kX6_foldableSets_10 {p : Program} {l : Launch} {e : Env} {s : State} {m : MethodId} {args : Array Value} {below : List Frame} {meth : Method} {c : Code} {D : va_G} {ad : Nat → Nat} {tc : Nat → ClassId} {A : Nat → Prop} (C : gj_C p s m args meth c D ad tc A cX6_foldableSets 5 (some .int) RX6) {r : Int32} {w1 : ab_W} : ∀ {n : Nat} {x0 : Nat} {x2 : Int32} {x3 : Int32} {x4 : Int32} {w : ab_W}, sX6_foldableSets_10 n x0 x2 x3 x4 w = some (r, w1) → gj_G p l e (gj_R 1) s m args below meth c D ad tc A 5 (gj_Qi D ad tc A below args s r w1) 10 [some (.ref x0), none, some (.int x2), some (.int x3), some (.int x4)] [] w := by
  intro n
  induction n with
  | zero =>
    intros
    rename_i h
    cases h
  | succ n ih =>
    intro x0 x2 x3 x4 w h
    rw [sX6_foldableSets_10] at h
    refine gj_iload C (pc' := 12) (i := 4) rfl dX6_foldableSets_10 rfl ?_
    refine gj_sipush C (pc' := 15) (v := 128) rfl dX6_foldableSets_12 (by decide) ?_
    refine gj_icmp_ge C (pc' := 18) (tgt := 38) rfl dX6_foldableSets_15 rfl h (fun h => ?_) (fun h => ?_)
    · refine gj_aload_n C (pc' := 19) (i := 0) rfl dX6_foldableSets_18 rfl rfl ?_
      refine gj_getR C (pc' := 22) rfl dX6_foldableSets_19 wf_X6_15 h (fun v1 h => ?_)
      refine gj_iload C (pc' := 24) (i := 4) rfl dX6_foldableSets_22 rfl ?_
      refine gj_iald C (pc' := 25) rfl dX6_foldableSets_24 h (fun v2 h => ?_)
      refine gj_iload_n C (pc' := 26) (i := 2) rfl dX6_foldableSets_25 rfl rfl ?_
      refine gj_icmp_gt C (pc' := 29) (tgt := 32) rfl dX6_foldableSets_26 rfl h (fun h => ?_) (fun h => ?_)
      · refine gj_drop (lv' := [some _, none, some _, some _, some _]) (And.intro rfl (And.intro rfl (And.intro rfl (And.intro rfl True.intro)))) ?_
        exact kX6_foldableSets_32 C (fun h => ih h) h
      · refine gj_iinc C (pc' := 32) (i := 3) (v := _ + 1) (lv' := [_, _, _, _, _]) rfl dX6_foldableSets_29 rfl rfl (by decide) rfl rfl ?_
        refine gj_drop (lv' := [some _, none, some _, some _, some _]) (And.intro rfl (And.intro rfl (And.intro rfl (And.intro rfl True.intro)))) ?_
        exact kX6_foldableSets_32 C (fun h => ih h) h
    · refine gj_iload_n C (pc' := 39) (i := 3) rfl dX6_foldableSets_38 rfl rfl ?_
      exact gj_iret C dX6_foldableSets_39 h
set_option maxHeartbeats 4000000 in
set_option maxRecDepth 100000 in
theorem kX6_foldableSets : ∀ (x0 : Nat) (x1 : Nat) (w : ab_W) (r : Int32) (w1 : ab_W), sX6_foldableSets x0 x1 w = some (r, w1) → gj_Mi yX6_foldableSets cX6_foldableSets 5 (some .int) 1 [.ref x0, .ref x1] w r w1 ∧ ab_is w 6 x0 = true := by
  intro x0 x1 w r w1 h
  unfold sX6_foldableSets at h
  obtain ⟨hi, h⟩ := ab_ite h
  refine ⟨?_, hi⟩
  refine gj_Mi_of RX6 [some (.ref x0), some (.ref x1), none, none, none] (by decide +kernel) rfl (Nat.le_of_ble_eq_true rfl) rfl (fun p l e s m args below meth c D ad tc A C => ?_)
  refine gj_aload_n C (pc' := 1) (i := 1) rfl dX6_foldableSets_0 rfl rfl ?_
  refine gj_callVi C (pc' := 4) rfl dX6_foldableSets_1 wm_X6_62 uX3_stiff h (kX3_stiff _ _) (by omega) rfl rfl (Nat.le_of_ble_eq_true rfl) (fun v1 w2 h => ?_)
  refine gj_istore_n C (pc' := 5) (i := 2) (lv' := [_, _, _, _, _]) rfl dX6_foldableSets_4 rfl (by decide) rfl rfl ?_
  refine gj_iconst C (pc' := 6) (v := 0) rfl dX6_foldableSets_5 (by decide) ?_
  refine gj_istore_n C (pc' := 7) (i := 3) (lv' := [_, _, _, _, _]) rfl dX6_foldableSets_6 rfl (by decide) rfl rfl ?_
  refine gj_iconst C (pc' := 8) (v := 0) rfl dX6_foldableSets_7 (by decide) ?_
  refine gj_istore C (pc' := 10) (i := 4) (lv' := [_, _, _, _, _]) rfl dX6_foldableSets_8 (by decide) rfl rfl ?_
  refine gj_drop (lv' := [some _, none, some _, some _, some _]) (And.intro rfl (And.intro rfl (And.intro rfl (And.intro rfl True.intro)))) ?_
  exact kX6_foldableSets_10 C h
set_option maxHeartbeats 4000000 in
set_option maxRecDepth 100000 in
theorem kX6_livingSets_42 {p : Program} {l : Launch} {e : Env} {s : State} {m : MethodId} {args : Array Value} {below : List Frame} {meth : Method} {c : Code} {D : va_G} {ad : Nat → Nat} {tc : Nat → ClassId} {A : Nat → Prop} (C : gj_C p s m args meth c D ad tc A cX6_livingSets 5 (some .int) RX6) {r : Int32} {w1 : ab_W} {k10 : Nat → Nat → Int32 → Int32 → Int32 → ab_W → Option (Int32 × ab_W)} (hk10 : ∀ {x0 : Nat} {x1 : Nat} {x2 : Int32} {x3 : Int32} {x4 : Int32} {w : ab_W}, k10 x0 x1 x2 x3 x4 w = some (r, w1) → gj_G p l e (gj_R 2) s m args below meth c D ad tc A 5 (gj_Qi D ad tc A below args s r w1) 10 [some (.ref x0), some (.ref x1), some (.int x2), some (.int x3), some (.int x4)] [] w) {x0 : Nat} {x1 : Nat} {x2 : Int32} {x3 : Int32} {x4 : Int32} {w : ab_W} (h : sX6_livingSets_42 k10 x0 x1 x2 x3 x4 w = some (r, w1)) : gj_G p l e (gj_R 2) s m args below meth c D ad tc A 5 (gj_Qi D ad tc A below args s r w1) 42 [some (.ref x0), some (.ref x1), some (.int x2), some (.int x3), some (.int x4)] [] w := by
  unfold sX6_livingSets_42 at h
  refine gj_iinc C (pc' := 45) (i := 4) (v := _ + 1) (lv' := [_, _, _, _, _]) rfl dX6_livingSets_42 rfl rfl (by decide) rfl rfl ?_
  refine gj_goto C (tgt := 10) dX6_livingSets_45 rfl ?_
  refine gj_drop (lv' := [some _, some _, some _, some _, some _]) (And.intro rfl (And.intro rfl (And.intro rfl (And.intro rfl (And.intro rfl True.intro))))) ?_
  exact hk10 h
set_option maxHeartbeats 4000000 in
set_option maxRecDepth 100000 in
theorem kX6_livingSets_10 {p : Program} {l : Launch} {e : Env} {s : State} {m : MethodId} {args : Array Value} {below : List Frame} {meth : Method} {c : Code} {D : va_G} {ad : Nat → Nat} {tc : Nat → ClassId} {A : Nat → Prop} (C : gj_C p s m args meth c D ad tc A cX6_livingSets 5 (some .int) RX6) {r : Int32} {w1 : ab_W} : ∀ {n : Nat} {x0 : Nat} {x1 : Nat} {x2 : Int32} {x3 : Int32} {x4 : Int32} {w : ab_W}, sX6_livingSets_10 n x0 x1 x2 x3 x4 w = some (r, w1) → gj_G p l e (gj_R 2) s m args below meth c D ad tc A 5 (gj_Qi D ad tc A below args s r w1) 10 [some (.ref x0), some (.ref x1), some (.int x2), some (.int x3), some (.int x4)] [] w := by
  intro n
  induction n with
  | zero =>
    intros
    rename_i h
    cases h
  | succ n ih =>
    intro x0 x1 x2 x3 x4 w h
    rw [sX6_livingSets_10] at h
    refine gj_iload C (pc' := 12) (i := 4) rfl dX6_livingSets_10 rfl ?_
    refine gj_sipush C (pc' := 15) (v := 128) rfl dX6_livingSets_12 (by decide) ?_
    refine gj_icmp_ge C (pc' := 18) (tgt := 48) rfl dX6_livingSets_15 rfl h (fun h => ?_) (fun h => ?_)
    · refine gj_aload_n C (pc' := 19) (i := 0) rfl dX6_livingSets_18 rfl rfl ?_
      refine gj_getR C (pc' := 22) rfl dX6_livingSets_19 wf_X6_15 h (fun v1 h => ?_)
      refine gj_iload C (pc' := 24) (i := 4) rfl dX6_livingSets_22 rfl ?_
      refine gj_iald C (pc' := 25) rfl dX6_livingSets_24 h (fun v2 h => ?_)
      refine gj_iload_n C (pc' := 26) (i := 2) rfl dX6_livingSets_25 rfl rfl ?_
      refine gj_icmp_gt C (pc' := 29) (tgt := 42) rfl dX6_livingSets_26 rfl h (fun h => ?_) (fun h => ?_)
      · refine gj_drop (lv' := [some _, some _, some _, some _, some _]) (And.intro rfl (And.intro rfl (And.intro rfl (And.intro rfl (And.intro rfl True.intro))))) ?_
        exact kX6_livingSets_42 C (fun h => ih h) h
      · refine gj_aload_n C (pc' := 30) (i := 0) rfl dX6_livingSets_29 rfl rfl ?_
        refine gj_aload_n C (pc' := 31) (i := 1) rfl dX6_livingSets_30 rfl rfl ?_
        refine gj_iload C (pc' := 33) (i := 4) rfl dX6_livingSets_31 rfl ?_
        refine gj_callVi C (pc' := 36) rfl dX6_livingSets_33 wm_X6_65 uX6_live h (kX6_live _ _ _ _) (by omega) rfl rfl (Nat.le_of_ble_eq_true rfl) (fun v3 w4 h => ?_)
        refine gj_if_eq C (pc' := 39) (tgt := 42) rfl dX6_livingSets_36 rfl h (fun h => ?_) (fun h => ?_)
        · refine gj_drop (lv' := [some _, some _, some _, some _, some _]) (And.intro rfl (And.intro rfl (And.intro rfl (And.intro rfl (And.intro rfl True.intro))))) ?_
          exact kX6_livingSets_42 C (fun h => ih h) h
        · refine gj_iinc C (pc' := 42) (i := 3) (v := _ + 1) (lv' := [_, _, _, _, _]) rfl dX6_livingSets_39 rfl rfl (by decide) rfl rfl ?_
          refine gj_drop (lv' := [some _, some _, some _, some _, some _]) (And.intro rfl (And.intro rfl (And.intro rfl (And.intro rfl (And.intro rfl True.intro))))) ?_
          exact kX6_livingSets_42 C (fun h => ih h) h
    · refine gj_iload_n C (pc' := 49) (i := 3) rfl dX6_livingSets_48 rfl rfl ?_
      exact gj_iret C dX6_livingSets_49 h
set_option maxHeartbeats 4000000 in
set_option maxRecDepth 100000 in
theorem kX6_livingSets : ∀ (x0 : Nat) (x1 : Nat) (w : ab_W) (r : Int32) (w1 : ab_W), sX6_livingSets x0 x1 w = some (r, w1) → gj_Mi yX6_livingSets cX6_livingSets 5 (some .int) 2 [.ref x0, .ref x1] w r w1 ∧ ab_is w 6 x0 = true := by
  intro x0 x1 w r w1 h
  unfold sX6_livingSets at h
  obtain ⟨hi, h⟩ := ab_ite h
  refine ⟨?_, hi⟩
  refine gj_Mi_of RX6 [some (.ref x0), some (.ref x1), none, none, none] (by decide +kernel) rfl (Nat.le_of_ble_eq_true rfl) rfl (fun p l e s m args below meth c D ad tc A C => ?_)
  refine gj_aload_n C (pc' := 1) (i := 1) rfl dX6_livingSets_0 rfl rfl ?_
  refine gj_callVi C (pc' := 4) rfl dX6_livingSets_1 wm_X6_62 uX3_stiff h (kX3_stiff _ _) (by omega) rfl rfl (Nat.le_of_ble_eq_true rfl) (fun v1 w2 h => ?_)
  refine gj_istore_n C (pc' := 5) (i := 2) (lv' := [_, _, _, _, _]) rfl dX6_livingSets_4 rfl (by decide) rfl rfl ?_
  refine gj_iconst C (pc' := 6) (v := 0) rfl dX6_livingSets_5 (by decide) ?_
  refine gj_istore_n C (pc' := 7) (i := 3) (lv' := [_, _, _, _, _]) rfl dX6_livingSets_6 rfl (by decide) rfl rfl ?_
  refine gj_iconst C (pc' := 8) (v := 0) rfl dX6_livingSets_7 (by decide) ?_
  refine gj_istore C (pc' := 10) (i := 4) (lv' := [_, _, _, _, _]) rfl dX6_livingSets_8 (by decide) rfl rfl ?_
  refine gj_drop (lv' := [some _, some _, some _, some _, some _]) (And.intro rfl (And.intro rfl (And.intro rfl (And.intro rfl (And.intro rfl True.intro))))) ?_
  exact kX6_livingSets_10 C h
set_option maxHeartbeats 4000000 in
set_option maxRecDepth 100000 in
theorem kX9_commonDivisor_7 {p : Program} {l : Launch} {e : Env} {s : State} {m : MethodId} {args : Array Value} {below : List Frame} {meth : Method} {c : Code} {D : va_G} {ad : Nat → Nat} {tc : Nat → ClassId} {A : Nat → Prop} (C : gj_C p s m args meth c D ad tc A cX9_commonDivisor 6 (some .int) RX9) {r : Int32} {w1 : ab_W} : ∀ {n : Nat} {x2 : Int32} {x3 : Int32} {x4 : Int32} {w : ab_W}, sX9_commonDivisor_7 n x2 x3 x4 w = some (r, w1) → gj_G p l e (gj_R 0) s m args below meth c D ad tc A 6 (gj_Qi D ad tc A below args s r w1) 7 [none, none, some (.int x2), some (.int x3), some (.int x4), none] [] w := by
  intro n
  induction n with
  | zero =>
    intros
    rename_i h
    cases h
  | succ n ih =>
    intro x2 x3 x4 w h
    rw [sX9_commonDivisor_7] at h
    refine gj_iload C (pc' := 9) (i := 4) rfl dX9_commonDivisor_7 rfl ?_
    refine gj_sipush C (pc' := 12) (v := 128) rfl dX9_commonDivisor_9 (by decide) ?_
    refine gj_icmp_ge C (pc' := 15) (tgt := 35) rfl dX9_commonDivisor_12 rfl h (fun h => ?_) (fun h => ?_)
    · refine gj_iload_n C (pc' := 16) (i := 3) rfl dX9_commonDivisor_15 rfl rfl ?_
      refine gj_if_eq C (pc' := 19) (tgt := 35) rfl dX9_commonDivisor_16 rfl h (fun h => ?_) (fun h => ?_)
      · refine gj_iload_n C (pc' := 36) (i := 2) rfl dX9_commonDivisor_35 rfl rfl ?_
        exact gj_iret C dX9_commonDivisor_36 h
      · refine gj_iload_n C (pc' := 20) (i := 2) rfl dX9_commonDivisor_19 rfl rfl ?_
        refine gj_iload_n C (pc' := 21) (i := 3) rfl dX9_commonDivisor_20 rfl rfl ?_
        refine gj_irem C (pc' := 22) rfl dX9_commonDivisor_21 h (fun v1 h => ?_)
        refine gj_istore C (pc' := 24) (i := 5) (lv' := [_, _, _, _, _, _]) rfl dX9_commonDivisor_22 (by decide) rfl rfl ?_
        refine gj_iload_n C (pc' := 25) (i := 3) rfl dX9_commonDivisor_24 rfl rfl ?_
        refine gj_istore_n C (pc' := 26) (i := 2) (lv' := [_, _, _, _, _, _]) rfl dX9_commonDivisor_25 rfl (by decide) rfl rfl ?_
        refine gj_iload C (pc' := 28) (i := 5) rfl dX9_commonDivisor_26 rfl ?_
        refine gj_istore_n C (pc' := 29) (i := 3) (lv' := [_, _, _, _, _, _]) rfl dX9_commonDivisor_28 rfl (by decide) rfl rfl ?_
        refine gj_iinc C (pc' := 32) (i := 4) (v := _ + 1) (lv' := [_, _, _, _, _, _]) rfl dX9_commonDivisor_29 rfl rfl (by decide) rfl rfl ?_
        refine gj_goto C (tgt := 7) dX9_commonDivisor_32 rfl ?_
        refine gj_drop (lv' := [none, none, some _, some _, some _, none]) (And.intro rfl (And.intro rfl (And.intro rfl True.intro))) ?_
        exact ih h
    · refine gj_iload_n C (pc' := 36) (i := 2) rfl dX9_commonDivisor_35 rfl rfl ?_
      exact gj_iret C dX9_commonDivisor_36 h
set_option maxHeartbeats 4000000 in
set_option maxRecDepth 100000 in
theorem kX9_commonDivisor : ∀ (x0 : Int32) (x1 : Int32) (w : ab_W) (r : Int32) (w1 : ab_W), sX9_commonDivisor x0 x1 w = some (r, w1) → gj_Mi yX9_commonDivisor cX9_commonDivisor 6 (some .int) 0 [.int x0, .int x1] w r w1 := by
  intro x0 x1 w r w1 h
  unfold sX9_commonDivisor at h
  refine gj_Mi_of RX9 [some (.int x0), some (.int x1), none, none, none, none] (by decide +kernel) rfl (Nat.le_of_ble_eq_true rfl) rfl (fun p l e s m args below meth c D ad tc A C => ?_)
  refine gj_iload_n C (pc' := 1) (i := 0) rfl dX9_commonDivisor_0 rfl rfl ?_
  refine gj_istore_n C (pc' := 2) (i := 2) (lv' := [_, _, _, _, _, _]) rfl dX9_commonDivisor_1 rfl (by decide) rfl rfl ?_
  refine gj_iload_n C (pc' := 3) (i := 1) rfl dX9_commonDivisor_2 rfl rfl ?_
  refine gj_istore_n C (pc' := 4) (i := 3) (lv' := [_, _, _, _, _, _]) rfl dX9_commonDivisor_3 rfl (by decide) rfl rfl ?_
  refine gj_iconst C (pc' := 5) (v := 0) rfl dX9_commonDivisor_4 (by decide) ?_
  refine gj_istore C (pc' := 7) (i := 4) (lv' := [_, _, _, _, _, _]) rfl dX9_commonDivisor_5 (by decide) rfl rfl ?_
  refine gj_drop (lv' := [none, none, some _, some _, some _, none]) (And.intro rfl (And.intro rfl (And.intro rfl True.intro))) ?_
  exact kX9_commonDivisor_7 C h
set_option maxHeartbeats 4000000 in
set_option maxRecDepth 100000 in
theorem kX9_odds_20 {p : Program} {l : Launch} {e : Env} {s : State} {m : MethodId} {args : Array Value} {below : List Frame} {meth : Method} {c : Code} {D : va_G} {ad : Nat → Nat} {tc : Nat → ClassId} {A : Nat → Prop} (C : gj_C p s m args meth c D ad tc A cX9_odds 7 (some .int) RX9) {r : Int32} {w1 : ab_W} {x0 : Nat} {w : ab_W} (h : sX9_odds_20 x0 w = some (r, w1)) : gj_G p l e (gj_R 3) s m args below meth c D ad tc A 7 (gj_Qi D ad tc A below args s r w1) 20 [some (.ref x0), none, none, none, none, none, none] [] w := by
  unfold sX9_odds_20 at h
  refine gj_aload_n C (pc' := 21) (i := 0) rfl dX9_odds_20 rfl rfl ?_
  refine gj_iconst C (pc' := 22) (v := 1) rfl dX9_odds_21 (by decide) ?_
  refine gj_callVi C (pc' := 25) rfl dX9_odds_22 wm_X9_66 uX9_fail h (kX9_fail _ _ _) (by omega) rfl rfl (Nat.le_of_ble_eq_true rfl) (fun v1 w2 h => ?_)
  exact gj_iret C dX9_odds_25 h
set_option maxHeartbeats 4000000 in
set_option maxRecDepth 100000 in
theorem kX9_odds : ∀ (x0 : Nat) (x1 : Int32) (x2 : Int32) (w : ab_W) (r : Int32) (w1 : ab_W), sX9_odds x0 x1 x2 w = some (r, w1) → gj_Mi yX9_odds cX9_odds 7 (some .int) 3 [.ref x0, .int x1, .int x2] w r w1 ∧ ab_is w 9 x0 = true := by
  intro x0 x1 x2 w r w1 h
  unfold sX9_odds at h
  obtain ⟨hi, h⟩ := ab_ite h
  refine ⟨?_, hi⟩
  refine gj_Mi_of RX9 [some (.ref x0), some (.int x1), some (.int x2), none, none, none, none] (by decide +kernel) rfl (Nat.le_of_ble_eq_true rfl) rfl (fun p l e s m args below meth c D ad tc A C => ?_)
  refine gj_aload_n C (pc' := 1) (i := 0) rfl dX9_odds_0 rfl rfl ?_
  refine gj_getR C (pc' := 4) rfl dX9_odds_1 wf_X9_30 h (fun v1 h => ?_)
  refine gj_iload_n C (pc' := 5) (i := 1) rfl dX9_odds_4 rfl rfl ?_
  refine gj_callVi C (pc' := 8) rfl dX9_odds_5 wm_X9_77 uX0_has h (kX0_has _ _ _) (by omega) rfl rfl (Nat.le_of_ble_eq_true rfl) (fun v2 w3 h => ?_)
  refine gj_if_eq C (pc' := 11) (tgt := 20) rfl dX9_odds_8 rfl h (fun h => ?_) (fun h => ?_)
  · refine gj_drop (lv' := [some _, none, none, none, none, none, none]) (And.intro rfl True.intro) ?_
    exact kX9_odds_20 C h
  · refine gj_iload_n C (pc' := 12) (i := 2) rfl dX9_odds_11 rfl rfl ?_
    refine gj_iconst C (pc' := 13) (v := 0) rfl dX9_odds_12 (by decide) ?_
    refine gj_iconst C (pc' := 14) (v := 1) rfl dX9_odds_13 (by decide) ?_
    refine gj_callSi C (pc' := 17) rfl dX9_odds_14 wm_X9_62 uX9_within h (kX9_within _ _ _ _) (by omega) rfl rfl (Nat.le_of_ble_eq_true rfl) (fun v4 w5 h => ?_)
    refine gj_if_ne C (pc' := 20) (tgt := 26) rfl dX9_odds_17 rfl h (fun h => ?_) (fun h => ?_)
    · refine gj_drop (lv' := [some _, none, none, none, none, none, none]) (And.intro rfl True.intro) ?_
      exact kX9_odds_20 C h
    · refine gj_aload_n C (pc' := 27) (i := 0) rfl dX9_odds_26 rfl rfl ?_
      refine gj_getR C (pc' := 30) rfl dX9_odds_27 wf_X9_30 h (fun v6 h => ?_)
      refine gj_getR C (pc' := 33) rfl dX9_odds_30 wf_X9_81 h (fun v7 h => ?_)
      refine gj_iload_n C (pc' := 34) (i := 1) rfl dX9_odds_33 rfl rfl ?_
      refine gj_rald C (pc' := 35) (t := 1) rfl dX9_odds_34 rfl h (fun v8 h => ?_)
      refine gj_astore_n C (pc' := 36) (i := 3) (lv' := [_, _, _, _, _, _, _]) rfl dX9_odds_35 rfl (by decide) rfl rfl ?_
      refine gj_aload_n C (pc' := 37) (i := 0) rfl dX9_odds_36 rfl rfl ?_
      refine gj_getR C (pc' := 40) rfl dX9_odds_37 wf_X9_23 h (fun v9 h => ?_)
      refine gj_aload_n C (pc' := 41) (i := 3) rfl dX9_odds_40 rfl rfl ?_
      refine gj_callVi C (pc' := 44) rfl dX9_odds_41 wm_X9_250 uX6_livingSets h (kX6_livingSets _ _ _) (by omega) rfl rfl (Nat.le_of_ble_eq_true rfl) (fun v10 w11 h => ?_)
      refine gj_istore C (pc' := 46) (i := 4) (lv' := [_, _, _, _, _, _, _]) rfl dX9_odds_44 (by decide) rfl rfl ?_
      refine gj_aload_n C (pc' := 47) (i := 0) rfl dX9_odds_46 rfl rfl ?_
      refine gj_getR C (pc' := 50) rfl dX9_odds_47 wf_X9_23 h (fun v12 h => ?_)
      refine gj_aload_n C (pc' := 51) (i := 3) rfl dX9_odds_50 rfl rfl ?_
      refine gj_callVi C (pc' := 54) rfl dX9_odds_51 wm_X9_254 uX6_foldableSets h (kX6_foldableSets _ _ _) (by omega) rfl rfl (Nat.le_of_ble_eq_true rfl) (fun v13 w14 h => ?_)
      refine gj_istore C (pc' := 56) (i := 5) (lv' := [_, _, _, _, _, _, _]) rfl dX9_odds_54 (by decide) rfl rfl ?_
      refine gj_iload C (pc' := 58) (i := 4) rfl dX9_odds_56 rfl ?_
      refine gj_iload C (pc' := 60) (i := 5) rfl dX9_odds_58 rfl ?_
      refine gj_callSi C (pc' := 63) rfl dX9_odds_60 wm_X9_257 uX9_commonDivisor h (kX9_commonDivisor _ _ _) (by omega) rfl rfl (Nat.le_of_ble_eq_true rfl) (fun v15 w16 h => ?_)
      refine gj_istore C (pc' := 65) (i := 6) (lv' := [_, _, _, _, _, _, _]) rfl dX9_odds_63 (by decide) rfl rfl ?_
      refine gj_iload C (pc' := 67) (i := 6) rfl dX9_odds_65 rfl ?_
      refine gj_if_ne C (pc' := 70) (tgt := 72) rfl dX9_odds_67 rfl h (fun h => ?_) (fun h => ?_)
      · refine gj_iload_n C (pc' := 71) (i := 2) rfl dX9_odds_70 rfl rfl ?_
        exact gj_iret C dX9_odds_71 h
      · refine gj_iload_n C (pc' := 73) (i := 2) rfl dX9_odds_72 rfl rfl ?_
        refine gj_if_ne C (pc' := 76) (tgt := 84) rfl dX9_odds_73 rfl h (fun h => ?_) (fun h => ?_)
        · refine gj_iload C (pc' := 78) (i := 4) rfl dX9_odds_76 rfl ?_
          refine gj_iload C (pc' := 80) (i := 6) rfl dX9_odds_78 rfl ?_
          refine gj_idiv C (pc' := 81) rfl dX9_odds_80 h (fun v17 h => ?_)
          refine gj_goto C (tgt := 89) dX9_odds_81 rfl ?_
          exact gj_iret C dX9_odds_89 h
        · refine gj_iload C (pc' := 86) (i := 5) rfl dX9_odds_84 rfl ?_
          refine gj_iload C (pc' := 88) (i := 6) rfl dX9_odds_86 rfl ?_
          refine gj_idiv C (pc' := 89) rfl dX9_odds_88 h (fun v18 h => ?_)
          exact gj_iret C dX9_odds_89 h
set_option maxHeartbeats 4000000 in
set_option maxRecDepth 100000 in
theorem kX9_seed : ∀ (x0 : Nat) (x1 : Int32) (w : ab_W) (r : Int32) (w1 : ab_W), sX9_seed x0 x1 w = some (r, w1) → gj_Mi yX9_seed cX9_seed 3 (some .int) 0 [.ref x0, .int x1] w r w1 ∧ ab_is w 9 x0 = true := by
  intro x0 x1 w r w1 h
  unfold sX9_seed at h
  obtain ⟨hi, h⟩ := ab_ite h
  refine ⟨?_, hi⟩
  refine gj_Mi_of RX9 [some (.ref x0), some (.int x1), none] (by decide +kernel) rfl (Nat.le_of_ble_eq_true rfl) rfl (fun p l e s m args below meth c D ad tc A C => ?_)
  refine gj_aload_n C (pc' := 1) (i := 0) rfl dX9_seed_0 rfl rfl ?_
  refine gj_getR C (pc' := 4) rfl dX9_seed_1 wf_X9_30 h (fun v1 h => ?_)
  refine gj_getI C (pc' := 7) rfl dX9_seed_4 wf_X9_260 h (fun v2 h => ?_)
  refine gj_istore_n C (pc' := 8) (i := 2) (lv' := [_, _, _]) rfl dX9_seed_7 rfl (by decide) rfl rfl ?_
  refine gj_aload_n C (pc' := 9) (i := 0) rfl dX9_seed_8 rfl rfl ?_
  refine gj_getR C (pc' := 12) rfl dX9_seed_9 wf_X9_30 h (fun v3 h => ?_)
  refine gj_iload_n C (pc' := 13) (i := 1) rfl dX9_seed_12 rfl rfl ?_
  refine gj_putI C (pc' := 16) (ty := .int) rfl dX9_seed_13 wf_X9_260 wp_X0_9 rfl h (fun w4 h => ?_)
  refine gj_iload_n C (pc' := 17) (i := 2) rfl dX9_seed_16 rfl rfl ?_
  exact gj_iret C dX9_seed_17 h
set_option maxHeartbeats 4000000 in
set_option maxRecDepth 100000 in
theorem kX8_bodyOf_51 {p : Program} {l : Launch} {e : Env} {s : State} {m : MethodId} {args : Array Value} {below : List Frame} {meth : Method} {c : Code} {D : va_G} {ad : Nat → Nat} {tc : Nat → ClassId} {A : Nat → Prop} (C : gj_C p s m args meth c D ad tc A cX8_bodyOf 5 (some .int) RX8) {r : Int32} {w1 : ab_W} {x1 : Int32} {w : ab_W} (h : sX8_bodyOf_51 x1 w = some (r, w1)) : gj_G p l e (gj_R 0) s m args below meth c D ad tc A 5 (gj_Qi D ad tc A below args s r w1) 51 [none, some (.int x1), none, none, none] [] w := by
  unfold sX8_bodyOf_51 at h
  refine gj_bodies C (pc' := 54) rfl dX8_bodyOf_51 ws_X8_44 ?_
  refine gj_iload_n C (pc' := 55) (i := 1) rfl dX8_bodyOf_54 rfl rfl ?_
  refine gj_bodiesld C (pc' := 56) rfl dX8_bodyOf_55 h (fun v1 h => ?_)
  exact gj_iret C dX8_bodyOf_56 h
set_option maxHeartbeats 4000000 in
set_option maxRecDepth 100000 in
theorem kX8_bodyOf_4 {p : Program} {l : Launch} {e : Env} {s : State} {m : MethodId} {args : Array Value} {below : List Frame} {meth : Method} {c : Code} {D : va_G} {ad : Nat → Nat} {tc : Nat → ClassId} {A : Nat → Prop} (C : gj_C p s m args meth c D ad tc A cX8_bodyOf 5 (some .int) RX8) {r : Int32} {w1 : ab_W} : ∀ {n : Nat} {x1 : Int32} {x2 : Int32} {x3 : Int32} {w : ab_W}, sX8_bodyOf_4 n x1 x2 x3 w = some (r, w1) → gj_G p l e (gj_R 0) s m args below meth c D ad tc A 5 (gj_Qi D ad tc A below args s r w1) 4 [none, some (.int x1), some (.int x2), some (.int x3), none] [] w := by
  intro n
  induction n with
  | zero =>
    intros
    rename_i h
    cases h
  | succ n ih =>
    intro x1 x2 x3 w h
    rw [sX8_bodyOf_4] at h
    refine gj_iload_n C (pc' := 5) (i := 3) rfl dX8_bodyOf_4 rfl rfl ?_
    refine gj_bipush C (pc' := 7) (v := 7) rfl dX8_bodyOf_5 (by decide) ?_
    refine gj_icmp_ge C (pc' := 10) (tgt := 51) rfl dX8_bodyOf_7 rfl h (fun h => ?_) (fun h => ?_)
    · refine gj_iload_n C (pc' := 11) (i := 2) rfl dX8_bodyOf_10 rfl rfl ?_
      refine gj_if_le C (pc' := 14) (tgt := 51) rfl dX8_bodyOf_11 rfl h (fun h => ?_) (fun h => ?_)
      · refine gj_iload_n C (pc' := 15) (i := 2) rfl dX8_bodyOf_14 rfl rfl ?_
        refine gj_bipush C (pc' := 17) (v := 7) rfl dX8_bodyOf_15 (by decide) ?_
        refine gj_icmp_ge C (pc' := 20) (tgt := 51) rfl dX8_bodyOf_17 rfl h (fun h => ?_) (fun h => ?_)
        · refine gj_bodies C (pc' := 23) rfl dX8_bodyOf_20 ws_X8_44 ?_
          refine gj_iload_n C (pc' := 24) (i := 2) rfl dX8_bodyOf_23 rfl rfl ?_
          refine gj_iconst C (pc' := 25) (v := 4) rfl dX8_bodyOf_24 (by decide) ?_
          refine gj_imul C (pc' := 26) rfl dX8_bodyOf_25 ?_
          refine gj_iload_n C (pc' := 27) (i := 1) rfl dX8_bodyOf_26 rfl rfl ?_
          refine gj_iadd C (pc' := 28) rfl dX8_bodyOf_27 ?_
          refine gj_bodiesld C (pc' := 29) rfl dX8_bodyOf_28 h (fun v1 h => ?_)
          refine gj_istore C (pc' := 31) (i := 4) (lv' := [_, _, _, _, _]) rfl dX8_bodyOf_29 (by decide) rfl rfl ?_
          refine gj_iload C (pc' := 33) (i := 4) rfl dX8_bodyOf_31 rfl ?_
          refine gj_if_eq C (pc' := 36) (tgt := 39) rfl dX8_bodyOf_33 rfl h (fun h => ?_) (fun h => ?_)
          · refine gj_aboveN C (pc' := 42) rfl dX8_bodyOf_39 ?_
            refine gj_iload_n C (pc' := 43) (i := 2) rfl dX8_bodyOf_42 rfl rfl ?_
            refine gj_aboveld C (pc' := 44) rfl dX8_bodyOf_43 h (fun v2 h => ?_)
            refine gj_istore_n C (pc' := 45) (i := 2) (lv' := [_, _, _, _, _]) rfl dX8_bodyOf_44 rfl (by decide) rfl rfl ?_
            refine gj_iinc C (pc' := 48) (i := 3) (v := _ + 1) (lv' := [_, _, _, _, _]) rfl dX8_bodyOf_45 rfl rfl (by decide) rfl rfl ?_
            refine gj_goto C (tgt := 4) dX8_bodyOf_48 rfl ?_
            refine gj_drop (lv' := [none, some _, some _, some _, none]) (And.intro rfl (And.intro rfl (And.intro rfl True.intro))) ?_
            exact ih h
          · refine gj_iload C (pc' := 38) (i := 4) rfl dX8_bodyOf_36 rfl ?_
            exact gj_iret C dX8_bodyOf_38 h
        · refine gj_drop (lv' := [none, some _, none, none, none]) (And.intro rfl True.intro) ?_
          exact kX8_bodyOf_51 C h
      · refine gj_drop (lv' := [none, some _, none, none, none]) (And.intro rfl True.intro) ?_
        exact kX8_bodyOf_51 C h
    · refine gj_drop (lv' := [none, some _, none, none, none]) (And.intro rfl True.intro) ?_
      exact kX8_bodyOf_51 C h
set_option maxHeartbeats 4000000 in
set_option maxRecDepth 100000 in
theorem kX8_bodyOf : ∀ (x0 : Int32) (x1 : Int32) (w : ab_W) (r : Int32) (w1 : ab_W), sX8_bodyOf x0 x1 w = some (r, w1) → gj_Mi yX8_bodyOf cX8_bodyOf 5 (some .int) 0 [.int x0, .int x1] w r w1 := by
  intro x0 x1 w r w1 h
  unfold sX8_bodyOf at h
  refine gj_Mi_of RX8 [some (.int x0), some (.int x1), none, none, none] (by decide +kernel) rfl (Nat.le_of_ble_eq_true rfl) rfl (fun p l e s m args below meth c D ad tc A C => ?_)
  refine gj_iload_n C (pc' := 1) (i := 0) rfl dX8_bodyOf_0 rfl rfl ?_
  refine gj_istore_n C (pc' := 2) (i := 2) (lv' := [_, _, _, _, _]) rfl dX8_bodyOf_1 rfl (by decide) rfl rfl ?_
  refine gj_iconst C (pc' := 3) (v := 0) rfl dX8_bodyOf_2 (by decide) ?_
  refine gj_istore_n C (pc' := 4) (i := 3) (lv' := [_, _, _, _, _]) rfl dX8_bodyOf_3 rfl (by decide) rfl rfl ?_
  refine gj_drop (lv' := [none, some _, some _, some _, none]) (And.intro rfl (And.intro rfl (And.intro rfl True.intro))) ?_
  exact kX8_bodyOf_4 C h
set_option maxHeartbeats 4000000 in
set_option maxRecDepth 100000 in
theorem kX8_say_46 {p : Program} {l : Launch} {e : Env} {s : State} {m : MethodId} {args : Array Value} {below : List Frame} {meth : Method} {c : Code} {D : va_G} {ad : Nat → Nat} {tc : Nat → ClassId} {A : Nat → Prop} (C : gj_C p s m args meth c D ad tc A cX8_say 6 (some .int) RX8) {n0 : Nat} {r : Int32} {w1 : ab_W} {f_X8_perform : Nat → Int32 → Int32 → Int32 → ab_W → Option (Int32 × ab_W)} (hf_X8_perform : ∀ (x0 : Nat) (x1 : Int32) (x2 : Int32) (x3 : Int32) (w : ab_W) (r : Int32) (w1 : ab_W), f_X8_perform x0 x1 x2 x3 w = some (r, w1) → gj_Mi yX8_perform cX8_perform 4 (some .int) (1 + n0) [.ref x0, .int x1, .int x2, .int x3] w r w1 ∧ ab_is w 8 x0 = true) {x0 : Nat} {x3 : Int32} {x4 : Int32} {x5 : Int32} {w : ab_W} (h : sX8_say_46 f_X8_perform x0 x3 x4 x5 w = some (r, w1)) : gj_G p l e (gj_R (1 + n0 + 1)) s m args below meth c D ad tc A 6 (gj_Qi D ad tc A below args s r w1) 46 [some (.ref x0), none, none, some (.int x3), some (.int x4), some (.int x5)] [] w := by
  unfold sX8_say_46 at h
  refine gj_aload_n C (pc' := 47) (i := 0) rfl dX8_say_46 rfl rfl ?_
  refine gj_iload C (pc' := 49) (i := 5) rfl dX8_say_47 rfl ?_
  refine gj_iload_n C (pc' := 50) (i := 3) rfl dX8_say_49 rfl rfl ?_
  refine gj_iload C (pc' := 52) (i := 4) rfl dX8_say_50 rfl ?_
  refine gj_iconst C (pc' := 53) (v := 1) rfl dX8_say_52 (by decide) ?_
  refine gj_iadd C (pc' := 54) rfl dX8_say_53 ?_
  refine gj_callVi C (pc' := 57) rfl dX8_say_54 wm_X8_40 uX8_perform h (hf_X8_perform _ _ _ _ _) (by omega) rfl rfl (Nat.le_of_ble_eq_true rfl) (fun v1 w2 h => ?_)
  exact gj_iret C dX8_say_57 h
set_option maxHeartbeats 4000000 in
set_option maxRecDepth 100000 in
theorem kbX8_say {n0 : Nat} {f_X8_perform : Nat → Int32 → Int32 → Int32 → ab_W → Option (Int32 × ab_W)} (hf_X8_perform : ∀ (x0 : Nat) (x1 : Int32) (x2 : Int32) (x3 : Int32) (w : ab_W) (r : Int32) (w1 : ab_W), f_X8_perform x0 x1 x2 x3 w = some (r, w1) → gj_Mi yX8_perform cX8_perform 4 (some .int) (1 + n0) [.ref x0, .int x1, .int x2, .int x3] w r w1 ∧ ab_is w 8 x0 = true) : ∀ (x0 : Nat) (x1 : Int32) (x2 : Int32) (x3 : Int32) (x4 : Int32) (w : ab_W) (r : Int32) (w1 : ab_W), bX8_say f_X8_perform x0 x1 x2 x3 x4 w = some (r, w1) → gj_Mi yX8_say cX8_say 6 (some .int) (1 + n0 + 1) [.ref x0, .int x1, .int x2, .int x3, .int x4] w r w1 ∧ ab_is w 8 x0 = true := by
  intro x0 x1 x2 x3 x4 w r w1 h
  unfold bX8_say at h
  obtain ⟨hi, h⟩ := ab_ite h
  refine ⟨?_, hi⟩
  refine gj_Mi_of RX8 [some (.ref x0), some (.int x1), some (.int x2), some (.int x3), some (.int x4), none] (by decide +kernel) rfl (Nat.le_of_ble_eq_true rfl) rfl (fun p l e s m args below meth c D ad tc A C => ?_)
  refine gj_iload C (pc' := 2) (i := 4) rfl dX8_say_0 rfl ?_
  refine gj_bipush C (pc' := 4) (v := 40) rfl dX8_say_2 (by decide) ?_
  refine gj_icmp_lt C (pc' := 7) (tgt := 9) rfl dX8_say_4 rfl h (fun h => ?_) (fun h => ?_)
  · refine gj_iload_n C (pc' := 10) (i := 1) rfl dX8_say_9 rfl rfl ?_
    refine gj_iload_n C (pc' := 11) (i := 2) rfl dX8_say_10 rfl rfl ?_
    refine gj_callSi C (pc' := 14) rfl dX8_say_11 wm_X8_36 uX8_bodyOf h (kX8_bodyOf _ _ _) (by omega) rfl rfl (Nat.le_of_ble_eq_true rfl) (fun v1 w2 h => ?_)
    refine gj_istore C (pc' := 16) (i := 5) (lv' := [_, _, _, _, _, _]) rfl dX8_say_14 (by decide) rfl rfl ?_
    refine gj_aload_n C (pc' := 17) (i := 0) rfl dX8_say_16 rfl rfl ?_
    refine gj_getI C (pc' := 20) rfl dX8_say_17 wf_X8_15 h (fun v3 h => ?_)
    refine gj_bipush C (pc' := 22) (v := 40) rfl dX8_say_20 (by decide) ?_
    refine gj_icmp_ge C (pc' := 25) (tgt := 46) rfl dX8_say_22 rfl h (fun h => ?_) (fun h => ?_)
    · refine gj_aload_n C (pc' := 26) (i := 0) rfl dX8_say_25 rfl rfl ?_
      refine gj_getR C (pc' := 29) rfl dX8_say_26 wf_X8_9 h (fun v4 h => ?_)
      refine gj_aload_n C (pc' := 30) (i := 0) rfl dX8_say_29 rfl rfl ?_
      refine gj_getI C (pc' := 33) rfl dX8_say_30 wf_X8_15 h (fun v5 h => ?_)
      refine gj_iload C (pc' := 35) (i := 5) rfl dX8_say_33 rfl ?_
      refine gj_iast C (pc' := 36) rfl dX8_say_35 h (fun w6 h => ?_)
      refine gj_aload_n C (pc' := 37) (i := 0) rfl dX8_say_36 rfl rfl ?_
      refine gj_dup C (pc' := 38) rfl dX8_say_37 rfl ?_
      refine gj_getI C (pc' := 41) rfl dX8_say_38 wf_X8_15 h (fun v7 h => ?_)
      refine gj_iconst C (pc' := 42) (v := 1) rfl dX8_say_41 (by decide) ?_
      refine gj_iadd C (pc' := 43) rfl dX8_say_42 ?_
      refine gj_putI C (pc' := 46) (ty := .int) rfl dX8_say_43 wf_X8_15 wp_X8_1 rfl h (fun w8 h => ?_)
      refine gj_drop (lv' := [some _, none, none, some _, some _, some _]) (And.intro rfl (And.intro rfl (And.intro rfl (And.intro rfl True.intro)))) ?_
      exact kX8_say_46 C hf_X8_perform h
    · refine gj_drop (lv' := [some _, none, none, some _, some _, some _]) (And.intro rfl (And.intro rfl (And.intro rfl (And.intro rfl True.intro)))) ?_
      exact kX8_say_46 C hf_X8_perform h
  · refine gj_iconst C (pc' := 8) (v := 0) rfl dX8_say_7 (by decide) ?_
    exact gj_iret C dX8_say_8 h
set_option maxHeartbeats 4000000 in
set_option maxRecDepth 100000 in
theorem kbX8_perform {n0 : Nat} {f_X8_say : Nat → Int32 → Int32 → Int32 → Int32 → ab_W → Option (Int32 × ab_W)} (hf_X8_say : ∀ (x0 : Nat) (x1 : Int32) (x2 : Int32) (x3 : Int32) (x4 : Int32) (w : ab_W) (r : Int32) (w1 : ab_W), f_X8_say x0 x1 x2 x3 x4 w = some (r, w1) → gj_Mi yX8_say cX8_say 6 (some .int) (1 + n0) [.ref x0, .int x1, .int x2, .int x3, .int x4] w r w1 ∧ ab_is w 8 x0 = true) : ∀ (x0 : Nat) (x1 : Int32) (x2 : Int32) (x3 : Int32) (w : ab_W) (r : Int32) (w1 : ab_W), bX8_perform f_X8_say x0 x1 x2 x3 w = some (r, w1) → gj_Mi yX8_perform cX8_perform 4 (some .int) (1 + n0 + 1) [.ref x0, .int x1, .int x2, .int x3] w r w1 ∧ ab_is w 8 x0 = true := by
  intro x0 x1 x2 x3 w r w1 h
  unfold bX8_perform at h
  obtain ⟨hi, h⟩ := ab_ite h
  refine ⟨?_, hi⟩
  refine gj_Mi_of RX8 [some (.ref x0), some (.int x1), some (.int x2), some (.int x3)] (by decide +kernel) rfl (Nat.le_of_ble_eq_true rfl) rfl (fun p l e s m args below meth c D ad tc A C => ?_)
  refine gj_iload_n C (pc' := 1) (i := 1) rfl dX8_perform_0 rfl rfl ?_
  refine gj_look C (tgt := 100) dX8_perform_1 10 (by decide) rfl (by decide) h (fun h => ?_) (fun n1_0 h => ?_)
  · refine gj_iload_n C (pc' := 101) (i := 2) rfl dX8_perform_100 rfl rfl ?_
    refine gj_aload_n C (pc' := 102) (i := 0) rfl dX8_perform_101 rfl rfl ?_
    refine gj_getI C (pc' := 105) rfl dX8_perform_102 wf_X8_25 h (fun v1 h => ?_)
    refine gj_iadd C (pc' := 106) rfl dX8_perform_105 ?_
    exact gj_iret C dX8_perform_106 h
  refine gj_look C (tgt := 107) dX8_perform_1 11 (by decide) rfl (by decide) h (fun h => ?_) (fun n1_1 h => ?_)
  · refine gj_aload_n C (pc' := 108) (i := 0) rfl dX8_perform_107 rfl rfl ?_
    refine gj_aload_n C (pc' := 109) (i := 0) rfl dX8_perform_108 rfl rfl ?_
    refine gj_getI C (pc' := 112) rfl dX8_perform_109 wf_X8_19 h (fun v2 h => ?_)
    refine gj_iconst C (pc' := 113) (v := 0) rfl dX8_perform_112 (by decide) ?_
    refine gj_iload_n C (pc' := 114) (i := 2) rfl dX8_perform_113 rfl rfl ?_
    refine gj_iload_n C (pc' := 115) (i := 3) rfl dX8_perform_114 rfl rfl ?_
    refine gj_callVi C (pc' := 118) rfl dX8_perform_115 wm_X8_32 uX8_say h (hf_X8_say _ _ _ _ _ _) (by omega) rfl rfl (Nat.le_of_ble_eq_true rfl) (fun v3 w4 h => ?_)
    refine gj_iconst C (pc' := 119) (v := 2) rfl dX8_perform_118 (by decide) ?_
    refine gj_imul C (pc' := 120) rfl dX8_perform_119 ?_
    exact gj_iret C dX8_perform_120 h
  refine gj_look C (tgt := 121) dX8_perform_1 12 (by decide) rfl (by decide) h (fun h => ?_) (fun n1_2 h => ?_)
  · refine gj_iload_n C (pc' := 122) (i := 2) rfl dX8_perform_121 rfl rfl ?_
    refine gj_aload_n C (pc' := 123) (i := 0) rfl dX8_perform_122 rfl rfl ?_
    refine gj_getI C (pc' := 126) rfl dX8_perform_123 wf_X8_22 h (fun v5 h => ?_)
    refine gj_isub C (pc' := 127) rfl dX8_perform_126 ?_
    exact gj_iret C dX8_perform_127 h
  refine gj_look C (tgt := 128) dX8_perform_1 13 (by decide) rfl (by decide) h (fun h => ?_) (fun n1_3 h => ?_)
  · refine gj_aload_n C (pc' := 129) (i := 0) rfl dX8_perform_128 rfl rfl ?_
    refine gj_aload_n C (pc' := 130) (i := 0) rfl dX8_perform_129 rfl rfl ?_
    refine gj_getI C (pc' := 133) rfl dX8_perform_130 wf_X8_19 h (fun v6 h => ?_)
    refine gj_iconst C (pc' := 134) (v := 1) rfl dX8_perform_133 (by decide) ?_
    refine gj_iload_n C (pc' := 135) (i := 2) rfl dX8_perform_134 rfl rfl ?_
    refine gj_iload_n C (pc' := 136) (i := 3) rfl dX8_perform_135 rfl rfl ?_
    refine gj_callVi C (pc' := 139) rfl dX8_perform_136 wm_X8_32 uX8_say h (hf_X8_say _ _ _ _ _ _) (by omega) rfl rfl (Nat.le_of_ble_eq_true rfl) (fun v7 w8 h => ?_)
    refine gj_aload_n C (pc' := 140) (i := 0) rfl dX8_perform_139 rfl rfl ?_
    refine gj_aload_n C (pc' := 141) (i := 0) rfl dX8_perform_140 rfl rfl ?_
    refine gj_getI C (pc' := 144) rfl dX8_perform_141 wf_X8_19 h (fun v9 h => ?_)
    refine gj_iconst C (pc' := 145) (v := 2) rfl dX8_perform_144 (by decide) ?_
    refine gj_iload_n C (pc' := 146) (i := 2) rfl dX8_perform_145 rfl rfl ?_
    refine gj_iload_n C (pc' := 147) (i := 3) rfl dX8_perform_146 rfl rfl ?_
    refine gj_callVi C (pc' := 150) rfl dX8_perform_147 wm_X8_32 uX8_say h (hf_X8_say _ _ _ _ _ _) (by omega) rfl rfl (Nat.le_of_ble_eq_true rfl) (fun v10 w11 h => ?_)
    refine gj_ixor C (pc' := 151) rfl dX8_perform_150 ?_
    exact gj_iret C dX8_perform_151 h
  refine gj_look C (tgt := 152) dX8_perform_1 20 (by decide) rfl (by decide) h (fun h => ?_) (fun n1_4 h => ?_)
  · refine gj_aload_n C (pc' := 153) (i := 0) rfl dX8_perform_152 rfl rfl ?_
    refine gj_iconst C (pc' := 154) (v := 0) rfl dX8_perform_153 (by decide) ?_
    refine gj_iconst C (pc' := 155) (v := 0) rfl dX8_perform_154 (by decide) ?_
    refine gj_iload_n C (pc' := 156) (i := 2) rfl dX8_perform_155 rfl rfl ?_
    refine gj_iload_n C (pc' := 157) (i := 3) rfl dX8_perform_156 rfl rfl ?_
    refine gj_callVi C (pc' := 160) rfl dX8_perform_157 wm_X8_32 uX8_say h (hf_X8_say _ _ _ _ _ _) (by omega) rfl rfl (Nat.le_of_ble_eq_true rfl) (fun v12 w13 h => ?_)
    refine gj_iconst C (pc' := 161) (v := 3) rfl dX8_perform_160 (by decide) ?_
    refine gj_imul C (pc' := 162) rfl dX8_perform_161 ?_
    exact gj_iret C dX8_perform_162 h
  refine gj_look C (tgt := 163) dX8_perform_1 30 (by decide) rfl (by decide) h (fun h => ?_) (fun n1_5 h => ?_)
  · refine gj_aload_n C (pc' := 164) (i := 0) rfl dX8_perform_163 rfl rfl ?_
    refine gj_iconst C (pc' := 165) (v := 0) rfl dX8_perform_164 (by decide) ?_
    refine gj_iconst C (pc' := 166) (v := 1) rfl dX8_perform_165 (by decide) ?_
    refine gj_iload_n C (pc' := 167) (i := 2) rfl dX8_perform_166 rfl rfl ?_
    refine gj_iload_n C (pc' := 168) (i := 3) rfl dX8_perform_167 rfl rfl ?_
    refine gj_callVi C (pc' := 171) rfl dX8_perform_168 wm_X8_32 uX8_say h (hf_X8_say _ _ _ _ _ _) (by omega) rfl rfl (Nat.le_of_ble_eq_true rfl) (fun v14 w15 h => ?_)
    refine gj_aload_n C (pc' := 172) (i := 0) rfl dX8_perform_171 rfl rfl ?_
    refine gj_aload_n C (pc' := 173) (i := 0) rfl dX8_perform_172 rfl rfl ?_
    refine gj_getI C (pc' := 176) rfl dX8_perform_173 wf_X8_19 h (fun v16 h => ?_)
    refine gj_iconst C (pc' := 177) (v := 2) rfl dX8_perform_176 (by decide) ?_
    refine gj_iconst C (pc' := 178) (v := 1) rfl dX8_perform_177 (by decide) ?_
    refine gj_iload_n C (pc' := 179) (i := 3) rfl dX8_perform_178 rfl rfl ?_
    refine gj_callVi C (pc' := 182) rfl dX8_perform_179 wm_X8_32 uX8_say h (hf_X8_say _ _ _ _ _ _) (by omega) rfl rfl (Nat.le_of_ble_eq_true rfl) (fun v17 w18 h => ?_)
    refine gj_isub C (pc' := 183) rfl dX8_perform_182 ?_
    exact gj_iret C dX8_perform_183 h
  refine gj_look C (tgt := 184) dX8_perform_1 40 (by decide) rfl (by decide) h (fun h => ?_) (fun n1_6 h => ?_)
  · refine gj_aload_n C (pc' := 185) (i := 0) rfl dX8_perform_184 rfl rfl ?_
    refine gj_iconst C (pc' := 186) (v := 0) rfl dX8_perform_185 (by decide) ?_
    refine gj_iconst C (pc' := 187) (v := 2) rfl dX8_perform_186 (by decide) ?_
    refine gj_iload_n C (pc' := 188) (i := 2) rfl dX8_perform_187 rfl rfl ?_
    refine gj_iload_n C (pc' := 189) (i := 3) rfl dX8_perform_188 rfl rfl ?_
    refine gj_callVi C (pc' := 192) rfl dX8_perform_189 wm_X8_32 uX8_say h (hf_X8_say _ _ _ _ _ _) (by omega) rfl rfl (Nat.le_of_ble_eq_true rfl) (fun v19 w20 h => ?_)
    refine gj_ineg C (pc' := 193) rfl dX8_perform_192 ?_
    exact gj_iret C dX8_perform_193 h
  refine gj_look C (tgt := 194) dX8_perform_1 50 (by decide) rfl (by decide) h (fun h => ?_) (fun n1_7 h => ?_)
  · refine gj_aload_n C (pc' := 195) (i := 0) rfl dX8_perform_194 rfl rfl ?_
    refine gj_iconst C (pc' := 196) (v := 1) rfl dX8_perform_195 (by decide) ?_
    refine gj_iconst C (pc' := 197) (v := 3) rfl dX8_perform_196 (by decide) ?_
    refine gj_iload_n C (pc' := 198) (i := 2) rfl dX8_perform_197 rfl rfl ?_
    refine gj_iload_n C (pc' := 199) (i := 3) rfl dX8_perform_198 rfl rfl ?_
    refine gj_callVi C (pc' := 202) rfl dX8_perform_199 wm_X8_32 uX8_say h (hf_X8_say _ _ _ _ _ _) (by omega) rfl rfl (Nat.le_of_ble_eq_true rfl) (fun v21 w22 h => ?_)
    refine gj_aload_n C (pc' := 203) (i := 0) rfl dX8_perform_202 rfl rfl ?_
    refine gj_aload_n C (pc' := 204) (i := 0) rfl dX8_perform_203 rfl rfl ?_
    refine gj_getI C (pc' := 207) rfl dX8_perform_204 wf_X8_19 h (fun v23 h => ?_)
    refine gj_iconst C (pc' := 208) (v := 0) rfl dX8_perform_207 (by decide) ?_
    refine gj_iconst C (pc' := 209) (v := 2) rfl dX8_perform_208 (by decide) ?_
    refine gj_iload_n C (pc' := 210) (i := 3) rfl dX8_perform_209 rfl rfl ?_
    refine gj_callVi C (pc' := 213) rfl dX8_perform_210 wm_X8_32 uX8_say h (hf_X8_say _ _ _ _ _ _) (by omega) rfl rfl (Nat.le_of_ble_eq_true rfl) (fun v24 w25 h => ?_)
    refine gj_isub C (pc' := 214) rfl dX8_perform_213 ?_
    exact gj_iret C dX8_perform_214 h
  refine gj_look C (tgt := 215) dX8_perform_1 60 (by decide) rfl (by decide) h (fun h => ?_) (fun n1_8 h => ?_)
  · refine gj_aload_n C (pc' := 216) (i := 0) rfl dX8_perform_215 rfl rfl ?_
    refine gj_iconst C (pc' := 217) (v := 2) rfl dX8_perform_216 (by decide) ?_
    refine gj_iconst C (pc' := 218) (v := 1) rfl dX8_perform_217 (by decide) ?_
    refine gj_iload_n C (pc' := 219) (i := 2) rfl dX8_perform_218 rfl rfl ?_
    refine gj_iconst C (pc' := 220) (v := 1) rfl dX8_perform_219 (by decide) ?_
    refine gj_iadd C (pc' := 221) rfl dX8_perform_220 ?_
    refine gj_iload_n C (pc' := 222) (i := 3) rfl dX8_perform_221 rfl rfl ?_
    refine gj_callVi C (pc' := 225) rfl dX8_perform_222 wm_X8_32 uX8_say h (hf_X8_say _ _ _ _ _ _) (by omega) rfl rfl (Nat.le_of_ble_eq_true rfl) (fun v26 w27 h => ?_)
    exact gj_iret C dX8_perform_225 h
  refine gj_look C (tgt := 226) dX8_perform_1 70 (by decide) rfl (by decide) h (fun h => ?_) (fun n1_9 h => ?_)
  · refine gj_aload_n C (pc' := 227) (i := 0) rfl dX8_perform_226 rfl rfl ?_
    refine gj_iconst C (pc' := 228) (v := 3) rfl dX8_perform_227 (by decide) ?_
    refine gj_iconst C (pc' := 229) (v := 2) rfl dX8_perform_228 (by decide) ?_
    refine gj_iload_n C (pc' := 230) (i := 2) rfl dX8_perform_229 rfl rfl ?_
    refine gj_iload_n C (pc' := 231) (i := 3) rfl dX8_perform_230 rfl rfl ?_
    refine gj_callVi C (pc' := 234) rfl dX8_perform_231 wm_X8_32 uX8_say h (hf_X8_say _ _ _ _ _ _) (by omega) rfl rfl (Nat.le_of_ble_eq_true rfl) (fun v28 w29 h => ?_)
    refine gj_aload_n C (pc' := 235) (i := 0) rfl dX8_perform_234 rfl rfl ?_
    refine gj_getI C (pc' := 238) rfl dX8_perform_235 wf_X8_25 h (fun v30 h => ?_)
    refine gj_ixor C (pc' := 239) rfl dX8_perform_238 ?_
    exact gj_iret C dX8_perform_239 h
  refine gj_look C (tgt := 240) dX8_perform_1 71 (by decide) rfl (by decide) h (fun h => ?_) (fun n1_10 h => ?_)
  · refine gj_aload_n C (pc' := 241) (i := 0) rfl dX8_perform_240 rfl rfl ?_
    refine gj_aload_n C (pc' := 242) (i := 0) rfl dX8_perform_241 rfl rfl ?_
    refine gj_getI C (pc' := 245) rfl dX8_perform_242 wf_X8_19 h (fun v31 h => ?_)
    refine gj_iconst C (pc' := 246) (v := 1) rfl dX8_perform_245 (by decide) ?_
    refine gj_iload_n C (pc' := 247) (i := 2) rfl dX8_perform_246 rfl rfl ?_
    refine gj_iload_n C (pc' := 248) (i := 3) rfl dX8_perform_247 rfl rfl ?_
    refine gj_callVi C (pc' := 251) rfl dX8_perform_248 wm_X8_32 uX8_say h (hf_X8_say _ _ _ _ _ _) (by omega) rfl rfl (Nat.le_of_ble_eq_true rfl) (fun v32 w33 h => ?_)
    refine gj_aload_n C (pc' := 252) (i := 0) rfl dX8_perform_251 rfl rfl ?_
    refine gj_iconst C (pc' := 253) (v := 3) rfl dX8_perform_252 (by decide) ?_
    refine gj_iconst C (pc' := 254) (v := 3) rfl dX8_perform_253 (by decide) ?_
    refine gj_iload_n C (pc' := 255) (i := 2) rfl dX8_perform_254 rfl rfl ?_
    refine gj_iload_n C (pc' := 256) (i := 3) rfl dX8_perform_255 rfl rfl ?_
    refine gj_callVi C (pc' := 259) rfl dX8_perform_256 wm_X8_32 uX8_say h (hf_X8_say _ _ _ _ _ _) (by omega) rfl rfl (Nat.le_of_ble_eq_true rfl) (fun v34 w35 h => ?_)
    refine gj_isub C (pc' := 260) rfl dX8_perform_259 ?_
    exact gj_iret C dX8_perform_260 h
  refine gj_lookD C (tgt := 261) dX8_perform_1 (by decide) (by decide) (by show Op.lookupswitch.offset (_ :: _) _ _ = _; rw [lv_osw n1_0 (by decide), lv_osw n1_1 (by decide), lv_osw n1_2 (by decide), lv_osw n1_3 (by decide), lv_osw n1_4 (by decide), lv_osw n1_5 (by decide), lv_osw n1_6 (by decide), lv_osw n1_7 (by decide), lv_osw n1_8 (by decide), lv_osw n1_9 (by decide), lv_osw n1_10 (by decide)]; try rfl) ?_
  refine gj_iconst C (pc' := 262) (v := 0) rfl dX8_perform_261 (by decide) ?_
  exact gj_iret C dX8_perform_262 h
set_option maxHeartbeats 4000000 in
set_option maxRecDepth 100000 in
theorem kgX8_say : ∀ n : Nat, (∀ (x0 : Nat) (x1 : Int32) (x2 : Int32) (x3 : Int32) (x4 : Int32) (w : ab_W) (r : Int32) (w1 : ab_W), sX8_say n x0 x1 x2 x3 x4 w = some (r, w1) → gj_Mi yX8_say cX8_say 6 (some .int) (1 + n) [.ref x0, .int x1, .int x2, .int x3, .int x4] w r w1 ∧ ab_is w 8 x0 = true) ∧ (∀ (x0 : Nat) (x1 : Int32) (x2 : Int32) (x3 : Int32) (w : ab_W) (r : Int32) (w1 : ab_W), sX8_perform n x0 x1 x2 x3 w = some (r, w1) → gj_Mi yX8_perform cX8_perform 4 (some .int) (1 + n) [.ref x0, .int x1, .int x2, .int x3] w r w1 ∧ ab_is w 8 x0 = true) := by
  intro n
  induction n with
  | zero => exact ⟨(by intros; rename_i h; cases h), (by intros; rename_i h; cases h)⟩
  | succ n ih =>
    obtain ⟨hX8_say, hX8_perform⟩ := ih
    exact ⟨kbX8_say hX8_perform, kbX8_perform hX8_say⟩
set_option maxHeartbeats 4000000 in
set_option maxRecDepth 100000 in
theorem kX8_say (n : Nat) : ∀ (x0 : Nat) (x1 : Int32) (x2 : Int32) (x3 : Int32) (x4 : Int32) (w : ab_W) (r : Int32) (w1 : ab_W), sX8_say n x0 x1 x2 x3 x4 w = some (r, w1) → gj_Mi yX8_say cX8_say 6 (some .int) (1 + n) [.ref x0, .int x1, .int x2, .int x3, .int x4] w r w1 ∧ ab_is w 8 x0 = true := (kgX8_say n).1
set_option maxHeartbeats 4000000 in
set_option maxRecDepth 100000 in
theorem kX8_perform (n : Nat) : ∀ (x0 : Nat) (x1 : Int32) (x2 : Int32) (x3 : Int32) (w : ab_W) (r : Int32) (w1 : ab_W), sX8_perform n x0 x1 x2 x3 w = some (r, w1) → gj_Mi yX8_perform cX8_perform 4 (some .int) (1 + n) [.ref x0, .int x1, .int x2, .int x3] w r w1 ∧ ab_is w 8 x0 = true := (kgX8_say n).2
set_option maxHeartbeats 4000000 in
set_option maxRecDepth 100000 in
theorem kX8_speak : ∀ (x0 : Nat) (x1 : Nat) (x2 : Int32) (x3 : Int32) (x4 : Int32) (w : ab_W) (r : Int32) (w1 : ab_W), sX8_speak x0 x1 x2 x3 x4 w = some (r, w1) → gj_Mi yX8_speak cX8_speak 5 (some .int) 102 [.ref x0, .ref x1, .int x2, .int x3, .int x4] w r w1 ∧ ab_is w 8 x0 = true := by
  intro x0 x1 x2 x3 x4 w r w1 h
  unfold sX8_speak at h
  obtain ⟨hi, h⟩ := ab_ite h
  refine ⟨?_, hi⟩
  refine gj_Mi_of RX8 [some (.ref x0), some (.ref x1), some (.int x2), some (.int x3), some (.int x4)] (by decide +kernel) rfl (Nat.le_of_ble_eq_true rfl) rfl (fun p l e s m args below meth c D ad tc A C => ?_)
  refine gj_aload_n C (pc' := 1) (i := 0) rfl dX8_speak_0 rfl rfl ?_
  refine gj_iconst C (pc' := 2) (v := 0) rfl dX8_speak_1 (by decide) ?_
  refine gj_putI C (pc' := 5) (ty := .int) rfl dX8_speak_2 wf_X8_15 wp_X8_1 rfl h (fun w1 h => ?_)
  refine gj_aload_n C (pc' := 6) (i := 0) rfl dX8_speak_5 rfl rfl ?_
  refine gj_aload_n C (pc' := 7) (i := 1) rfl dX8_speak_6 rfl rfl ?_
  refine gj_getI C (pc' := 10) rfl dX8_speak_7 wf_X8_28 h (fun v2 h => ?_)
  refine gj_putI C (pc' := 13) (ty := .int) rfl dX8_speak_10 wf_X8_19 wp_X8_2 rfl h (fun w3 h => ?_)
  refine gj_aload_n C (pc' := 14) (i := 0) rfl dX8_speak_13 rfl rfl ?_
  refine gj_aload_n C (pc' := 15) (i := 1) rfl dX8_speak_14 rfl rfl ?_
  refine gj_getI C (pc' := 18) rfl dX8_speak_15 wf_X8_31 h (fun v4 h => ?_)
  refine gj_putI C (pc' := 21) (ty := .int) rfl dX8_speak_18 wf_X8_22 wp_X8_3 rfl h (fun w5 h => ?_)
  refine gj_aload_n C (pc' := 22) (i := 0) rfl dX8_speak_21 rfl rfl ?_
  refine gj_iload_n C (pc' := 23) (i := 2) rfl dX8_speak_22 rfl rfl ?_
  refine gj_putI C (pc' := 26) (ty := .int) rfl dX8_speak_23 wf_X8_25 wp_X8_4 rfl h (fun w6 h => ?_)
  refine gj_aload_n C (pc' := 27) (i := 0) rfl dX8_speak_26 rfl rfl ?_
  refine gj_aload_n C (pc' := 28) (i := 0) rfl dX8_speak_27 rfl rfl ?_
  refine gj_getI C (pc' := 31) rfl dX8_speak_28 wf_X8_19 h (fun v7 h => ?_)
  refine gj_iload_n C (pc' := 32) (i := 3) rfl dX8_speak_31 rfl rfl ?_
  refine gj_iload C (pc' := 34) (i := 4) rfl dX8_speak_32 rfl ?_
  refine gj_iconst C (pc' := 35) (v := 0) rfl dX8_speak_34 (by decide) ?_
  refine gj_callVi C (pc' := 38) rfl dX8_speak_35 wm_X8_32 uX8_say h (kX8_say 100 _ _ _ _ _ _) (by omega) rfl rfl (Nat.le_of_ble_eq_true rfl) (fun v8 w9 h => ?_)
  exact gj_iret C dX8_speak_38 h
set_option maxHeartbeats 4000000 in
set_option maxRecDepth 100000 in
theorem kX9_voice_20 {p : Program} {l : Launch} {e : Env} {s : State} {m : MethodId} {args : Array Value} {below : List Frame} {meth : Method} {c : Code} {D : va_G} {ad : Nat → Nat} {tc : Nat → ClassId} {A : Nat → Prop} (C : gj_C p s m args meth c D ad tc A cX9_voice 4 (some .int) RX9) {r : Int32} {w1 : ab_W} {x0 : Nat} {w : ab_W} (h : sX9_voice_20 x0 w = some (r, w1)) : gj_G p l e (gj_R 103) s m args below meth c D ad tc A 4 (gj_Qi D ad tc A below args s r w1) 20 [some (.ref x0), none, none, none] [] w := by
  unfold sX9_voice_20 at h
  refine gj_aload_n C (pc' := 21) (i := 0) rfl dX9_voice_20 rfl rfl ?_
  refine gj_iconst C (pc' := 22) (v := 1) rfl dX9_voice_21 (by decide) ?_
  refine gj_callVi C (pc' := 25) rfl dX9_voice_22 wm_X9_66 uX9_fail h (kX9_fail _ _ _) (by omega) rfl rfl (Nat.le_of_ble_eq_true rfl) (fun v1 w2 h => ?_)
  exact gj_iret C dX9_voice_25 h
set_option maxHeartbeats 4000000 in
set_option maxRecDepth 100000 in
theorem kX9_voice : ∀ (x0 : Nat) (x1 : Int32) (x2 : Int32) (x3 : Int32) (w : ab_W) (r : Int32) (w1 : ab_W), sX9_voice x0 x1 x2 x3 w = some (r, w1) → gj_Mi yX9_voice cX9_voice 4 (some .int) 103 [.ref x0, .int x1, .int x2, .int x3] w r w1 ∧ ab_is w 9 x0 = true := by
  intro x0 x1 x2 x3 w r w1 h
  unfold sX9_voice at h
  obtain ⟨hi, h⟩ := ab_ite h
  refine ⟨?_, hi⟩
  refine gj_Mi_of RX9 [some (.ref x0), some (.int x1), some (.int x2), some (.int x3)] (by decide +kernel) rfl (Nat.le_of_ble_eq_true rfl) rfl (fun p l e s m args below meth c D ad tc A C => ?_)
  refine gj_aload_n C (pc' := 1) (i := 0) rfl dX9_voice_0 rfl rfl ?_
  refine gj_getR C (pc' := 4) rfl dX9_voice_1 wf_X9_30 h (fun v1 h => ?_)
  refine gj_iload_n C (pc' := 5) (i := 1) rfl dX9_voice_4 rfl rfl ?_
  refine gj_callVi C (pc' := 8) rfl dX9_voice_5 wm_X9_77 uX0_has h (kX0_has _ _ _) (by omega) rfl rfl (Nat.le_of_ble_eq_true rfl) (fun v2 w3 h => ?_)
  refine gj_if_eq C (pc' := 11) (tgt := 20) rfl dX9_voice_8 rfl h (fun h => ?_) (fun h => ?_)
  · refine gj_drop (lv' := [some _, none, none, none]) (And.intro rfl True.intro) ?_
    exact kX9_voice_20 C h
  · refine gj_iload_n C (pc' := 12) (i := 2) rfl dX9_voice_11 rfl rfl ?_
    refine gj_iconst C (pc' := 13) (v := 0) rfl dX9_voice_12 (by decide) ?_
    refine gj_iconst C (pc' := 14) (v := 3) rfl dX9_voice_13 (by decide) ?_
    refine gj_callSi C (pc' := 17) rfl dX9_voice_14 wm_X9_62 uX9_within h (kX9_within _ _ _ _) (by omega) rfl rfl (Nat.le_of_ble_eq_true rfl) (fun v4 w5 h => ?_)
    refine gj_if_ne C (pc' := 20) (tgt := 26) rfl dX9_voice_17 rfl h (fun h => ?_) (fun h => ?_)
    · refine gj_drop (lv' := [some _, none, none, none]) (And.intro rfl True.intro) ?_
      exact kX9_voice_20 C h
    · refine gj_aload_n C (pc' := 27) (i := 0) rfl dX9_voice_26 rfl rfl ?_
      refine gj_getR C (pc' := 30) rfl dX9_voice_27 wf_X9_54 h (fun v6 h => ?_)
      refine gj_aload_n C (pc' := 31) (i := 0) rfl dX9_voice_30 rfl rfl ?_
      refine gj_getR C (pc' := 34) rfl dX9_voice_31 wf_X9_30 h (fun v7 h => ?_)
      refine gj_getR C (pc' := 37) rfl dX9_voice_34 wf_X9_81 h (fun v8 h => ?_)
      refine gj_iload_n C (pc' := 38) (i := 1) rfl dX9_voice_37 rfl rfl ?_
      refine gj_rald C (pc' := 39) (t := 1) rfl dX9_voice_38 rfl h (fun v9 h => ?_)
      refine gj_iload_n C (pc' := 40) (i := 1) rfl dX9_voice_39 rfl rfl ?_
      refine gj_iload_n C (pc' := 41) (i := 2) rfl dX9_voice_40 rfl rfl ?_
      refine gj_iload_n C (pc' := 42) (i := 3) rfl dX9_voice_41 rfl rfl ?_
      refine gj_callVi C (pc' := 45) rfl dX9_voice_42 wm_X9_263 uX8_speak h (kX8_speak _ _ _ _ _ _) (by omega) rfl rfl (Nat.le_of_ble_eq_true rfl) (fun v10 w11 h => ?_)
      exact gj_iret C dX9_voice_45 h
set_option maxHeartbeats 4000000 in
set_option maxRecDepth 100000 in
theorem kX9_trace : ∀ (x0 : Nat) (x1 : Int32) (w : ab_W) (r : Int32) (w1 : ab_W), sX9_trace x0 x1 w = some (r, w1) → gj_Mi yX9_trace cX9_trace 2 (some .int) 2 [.ref x0, .int x1] w r w1 ∧ ab_is w 9 x0 = true := by
  intro x0 x1 w r w1 h
  unfold sX9_trace at h
  obtain ⟨hi, h⟩ := ab_ite h
  refine ⟨?_, hi⟩
  refine gj_Mi_of RX9 [some (.ref x0), some (.int x1)] (by decide +kernel) rfl (Nat.le_of_ble_eq_true rfl) rfl (fun p l e s m args below meth c D ad tc A C => ?_)
  refine gj_iload_n C (pc' := 1) (i := 1) rfl dX9_trace_0 rfl rfl ?_
  refine gj_iconst C (pc' := 2) (v := 0) rfl dX9_trace_1 (by decide) ?_
  refine gj_aload_n C (pc' := 3) (i := 0) rfl dX9_trace_2 rfl rfl ?_
  refine gj_getR C (pc' := 6) rfl dX9_trace_3 wf_X9_54 h (fun v1 h => ?_)
  refine gj_getI C (pc' := 9) rfl dX9_trace_6 wf_X9_267 h (fun v2 h => ?_)
  refine gj_iconst C (pc' := 10) (v := 1) rfl dX9_trace_9 (by decide) ?_
  refine gj_isub C (pc' := 11) rfl dX9_trace_10 ?_
  refine gj_callSi C (pc' := 14) rfl dX9_trace_11 wm_X9_62 uX9_within h (kX9_within _ _ _ _) (by omega) rfl rfl (Nat.le_of_ble_eq_true rfl) (fun v3 w4 h => ?_)
  refine gj_if_ne C (pc' := 17) (tgt := 23) rfl dX9_trace_14 rfl h (fun h => ?_) (fun h => ?_)
  · refine gj_aload_n C (pc' := 18) (i := 0) rfl dX9_trace_17 rfl rfl ?_
    refine gj_iconst C (pc' := 19) (v := 2) rfl dX9_trace_18 (by decide) ?_
    refine gj_callVi C (pc' := 22) rfl dX9_trace_19 wm_X9_66 uX9_fail h (kX9_fail _ _ _) (by omega) rfl rfl (Nat.le_of_ble_eq_true rfl) (fun v5 w6 h => ?_)
    exact gj_iret C dX9_trace_22 h
  · refine gj_aload_n C (pc' := 24) (i := 0) rfl dX9_trace_23 rfl rfl ?_
    refine gj_getR C (pc' := 27) rfl dX9_trace_24 wf_X9_54 h (fun v7 h => ?_)
    refine gj_getR C (pc' := 30) rfl dX9_trace_27 wf_X9_270 h (fun v8 h => ?_)
    refine gj_iload_n C (pc' := 31) (i := 1) rfl dX9_trace_30 rfl rfl ?_
    refine gj_iald C (pc' := 32) rfl dX9_trace_31 h (fun v9 h => ?_)
    exact gj_iret C dX9_trace_32 h
set_option maxHeartbeats 4000000 in
set_option maxRecDepth 100000 in
theorem kX5_begin : ∀ (x0 : Nat) (x1 : Int32) (x2 : Int32) (w : ab_W) (w1 : ab_W), sX5_begin x0 x1 x2 w = some w1 → gj_Mv yX5_begin cX5_begin 3 none 1 [.ref x0, .int x1, .int x2] w w1 ∧ ab_is w 5 x0 = true := by
  intro x0 x1 x2 w w1 h
  unfold sX5_begin at h
  obtain ⟨hi, h⟩ := ab_ite h
  refine ⟨?_, hi⟩
  refine gj_Mv_of RX5 [some (.ref x0), some (.int x1), some (.int x2)] (by decide +kernel) rfl (Nat.le_of_ble_eq_true rfl) rfl (fun p l e s m args below meth c D ad tc A C => ?_)
  refine gj_aload_n C (pc' := 1) (i := 0) rfl dX5_begin_0 rfl rfl ?_
  refine gj_iload_n C (pc' := 2) (i := 1) rfl dX5_begin_1 rfl rfl ?_
  refine gj_putI C (pc' := 5) (ty := .int) rfl dX5_begin_2 wf_X5_15 wp_X5_1 rfl h (fun w1 h => ?_)
  refine gj_aload_n C (pc' := 6) (i := 0) rfl dX5_begin_5 rfl rfl ?_
  refine gj_iload_n C (pc' := 7) (i := 2) rfl dX5_begin_6 rfl rfl ?_
  refine gj_putI C (pc' := 10) (ty := .int) rfl dX5_begin_7 wf_X5_19 wp_X5_2 rfl h (fun w2 h => ?_)
  refine gj_aload_n C (pc' := 11) (i := 0) rfl dX5_begin_10 rfl rfl ?_
  refine gj_getR C (pc' := 14) rfl dX5_begin_11 wf_X5_9 h (fun v3 h => ?_)
  refine gj_iconst C (pc' := 15) (v := 0) rfl dX5_begin_14 (by decide) ?_
  refine gj_callSv C (pc' := 18) rfl dX5_begin_15 wm_X5_22 uJ7_fill_53178 h (kJ7_fill_53178 _ _ _) (by omega) rfl rfl (Nat.le_of_ble_eq_true rfl) (fun w4 h => ?_)
  exact gj_vret C dX5_begin_18 h
set_option maxHeartbeats 4000000 in
set_option maxRecDepth 100000 in
theorem kX9_sheet_31 {p : Program} {l : Launch} {e : Env} {s : State} {m : MethodId} {args : Array Value} {below : List Frame} {meth : Method} {c : Code} {D : va_G} {ad : Nat → Nat} {tc : Nat → ClassId} {A : Nat → Prop} (C : gj_C p s m args meth c D ad tc A cX9_sheet 4 (some .int) RX9) {r : Int32} {w1 : ab_W} {x0 : Nat} {w : ab_W} (h : sX9_sheet_31 x0 w = some (r, w1)) : gj_G p l e (gj_R 2) s m args below meth c D ad tc A 4 (gj_Qi D ad tc A below args s r w1) 31 [some (.ref x0), none, none, none] [] w := by
  unfold sX9_sheet_31 at h
  refine gj_aload_n C (pc' := 32) (i := 0) rfl dX9_sheet_31 rfl rfl ?_
  refine gj_iconst C (pc' := 33) (v := 1) rfl dX9_sheet_32 (by decide) ?_
  refine gj_callVi C (pc' := 36) rfl dX9_sheet_33 wm_X9_66 uX9_fail h (kX9_fail _ _ _) (by omega) rfl rfl (Nat.le_of_ble_eq_true rfl) (fun v1 w2 h => ?_)
  exact gj_iret C dX9_sheet_36 h
set_option maxHeartbeats 4000000 in
set_option maxRecDepth 100000 in
theorem kX9_sheet_83 {p : Program} {l : Launch} {e : Env} {s : State} {m : MethodId} {args : Array Value} {below : List Frame} {meth : Method} {c : Code} {D : va_G} {ad : Nat → Nat} {tc : Nat → ClassId} {A : Nat → Prop} (C : gj_C p s m args meth c D ad tc A cX9_sheet 4 (some .int) RX9) {r : Int32} {w1 : ab_W} {p0 : Nat} {p1 : Int32} {p2 : Int32} {w : ab_W} (h : sX9_sheet_83 p0 p1 p2 w = some (r, w1)) : gj_G p l e (gj_R 2) s m args below meth c D ad tc A 4 (gj_Qi D ad tc A below args s r w1) 83 [none, none, none, none] [.int p2, .int p1, .ref p0] w := by
  unfold sX9_sheet_83 at h
  refine gj_callVv C (pc' := 86) rfl dX9_sheet_83 wm_X9_273 uX5_begin h (kX5_begin _ _ _ _) (by omega) rfl rfl (Nat.le_of_ble_eq_true rfl) (fun w1 h => ?_)
  refine gj_iconst C (pc' := 87) (v := 1) rfl dX9_sheet_86 (by decide) ?_
  exact gj_iret C dX9_sheet_87 h
set_option maxHeartbeats 4000000 in
set_option maxRecDepth 100000 in
theorem kX9_sheet_67 {p : Program} {l : Launch} {e : Env} {s : State} {m : MethodId} {args : Array Value} {below : List Frame} {meth : Method} {c : Code} {D : va_G} {ad : Nat → Nat} {tc : Nat → ClassId} {A : Nat → Prop} (C : gj_C p s m args meth c D ad tc A cX9_sheet 4 (some .int) RX9) {r : Int32} {w1 : ab_W} {x0 : Nat} {x1 : Int32} {x2 : Int32} {x3 : Int32} {w : ab_W} (h : sX9_sheet_67 x0 x1 x2 x3 w = some (r, w1)) : gj_G p l e (gj_R 2) s m args below meth c D ad tc A 4 (gj_Qi D ad tc A below args s r w1) 67 [some (.ref x0), some (.int x1), some (.int x2), some (.int x3)] [] w := by
  unfold sX9_sheet_67 at h
  refine gj_aload_n C (pc' := 68) (i := 0) rfl dX9_sheet_67 rfl rfl ?_
  refine gj_getR C (pc' := 71) rfl dX9_sheet_68 wf_X9_15 h (fun v1 h => ?_)
  refine gj_iload_n C (pc' := 72) (i := 1) rfl dX9_sheet_71 rfl rfl ?_
  refine gj_rald C (pc' := 73) (t := 3) rfl dX9_sheet_72 rfl h (fun v2 h => ?_)
  refine gj_iload_n C (pc' := 74) (i := 2) rfl dX9_sheet_73 rfl rfl ?_
  refine gj_iload_n C (pc' := 75) (i := 2) rfl dX9_sheet_74 rfl rfl ?_
  refine gj_if_ne C (pc' := 78) (tgt := 82) rfl dX9_sheet_75 rfl h (fun h => ?_) (fun h => ?_)
  · refine gj_iconst C (pc' := 79) (v := 0) rfl dX9_sheet_78 (by decide) ?_
    refine gj_goto C (tgt := 83) dX9_sheet_79 rfl ?_
    refine gj_drop (lv' := [none, none, none, none]) True.intro ?_
    exact kX9_sheet_83 C h
  · refine gj_iload_n C (pc' := 83) (i := 3) rfl dX9_sheet_82 rfl rfl ?_
    refine gj_drop (lv' := [none, none, none, none]) True.intro ?_
    exact kX9_sheet_83 C h
set_option maxHeartbeats 4000000 in
set_option maxRecDepth 100000 in
theorem kX9_sheet_51 {p : Program} {l : Launch} {e : Env} {s : State} {m : MethodId} {args : Array Value} {below : List Frame} {meth : Method} {c : Code} {D : va_G} {ad : Nat → Nat} {tc : Nat → ClassId} {A : Nat → Prop} (C : gj_C p s m args meth c D ad tc A cX9_sheet 4 (some .int) RX9) {r : Int32} {w1 : ab_W} {x0 : Nat} {x1 : Int32} {x2 : Int32} {x3 : Int32} {w : ab_W} (h : sX9_sheet_51 x0 x1 x2 x3 w = some (r, w1)) : gj_G p l e (gj_R 2) s m args below meth c D ad tc A 4 (gj_Qi D ad tc A below args s r w1) 51 [some (.ref x0), some (.int x1), some (.int x2), some (.int x3)] [] w := by
  unfold sX9_sheet_51 at h
  refine gj_iload_n C (pc' := 52) (i := 2) rfl dX9_sheet_51 rfl rfl ?_
  refine gj_if_eq C (pc' := 55) (tgt := 67) rfl dX9_sheet_52 rfl h (fun h => ?_) (fun h => ?_)
  · refine gj_drop (lv' := [some _, some _, some _, some _]) (And.intro rfl (And.intro rfl (And.intro rfl (And.intro rfl True.intro)))) ?_
    exact kX9_sheet_67 C h
  · refine gj_iload_n C (pc' := 56) (i := 3) rfl dX9_sheet_55 rfl rfl ?_
    refine gj_bipush C (pc' := 58) (v := 40) rfl dX9_sheet_56 (by decide) ?_
    refine gj_icmp_le C (pc' := 61) (tgt := 67) rfl dX9_sheet_58 rfl h (fun h => ?_) (fun h => ?_)
    · refine gj_aload_n C (pc' := 62) (i := 0) rfl dX9_sheet_61 rfl rfl ?_
      refine gj_iconst C (pc' := 63) (v := 1) rfl dX9_sheet_62 (by decide) ?_
      refine gj_callVi C (pc' := 66) rfl dX9_sheet_63 wm_X9_66 uX9_fail h (kX9_fail _ _ _) (by omega) rfl rfl (Nat.le_of_ble_eq_true rfl) (fun v1 w2 h => ?_)
      exact gj_iret C dX9_sheet_66 h
    · refine gj_drop (lv' := [some _, some _, some _, some _]) (And.intro rfl (And.intro rfl (And.intro rfl (And.intro rfl True.intro)))) ?_
      exact kX9_sheet_67 C h
set_option maxHeartbeats 4000000 in
set_option maxRecDepth 100000 in
theorem kX9_sheet_37 {p : Program} {l : Launch} {e : Env} {s : State} {m : MethodId} {args : Array Value} {below : List Frame} {meth : Method} {c : Code} {D : va_G} {ad : Nat → Nat} {tc : Nat → ClassId} {A : Nat → Prop} (C : gj_C p s m args meth c D ad tc A cX9_sheet 4 (some .int) RX9) {r : Int32} {w1 : ab_W} {x0 : Nat} {x1 : Int32} {x2 : Int32} {x3 : Int32} {w : ab_W} (h : sX9_sheet_37 x0 x1 x2 x3 w = some (r, w1)) : gj_G p l e (gj_R 2) s m args below meth c D ad tc A 4 (gj_Qi D ad tc A below args s r w1) 37 [some (.ref x0), some (.int x1), some (.int x2), some (.int x3)] [] w := by
  unfold sX9_sheet_37 at h
  refine gj_iload_n C (pc' := 38) (i := 2) rfl dX9_sheet_37 rfl rfl ?_
  refine gj_if_eq C (pc' := 41) (tgt := 51) rfl dX9_sheet_38 rfl h (fun h => ?_) (fun h => ?_)
  · refine gj_drop (lv' := [some _, some _, some _, some _]) (And.intro rfl (And.intro rfl (And.intro rfl (And.intro rfl True.intro)))) ?_
    exact kX9_sheet_51 C h
  · refine gj_iload_n C (pc' := 42) (i := 3) rfl dX9_sheet_41 rfl rfl ?_
    refine gj_if_ge C (pc' := 45) (tgt := 51) rfl dX9_sheet_42 rfl h (fun h => ?_) (fun h => ?_)
    · refine gj_aload_n C (pc' := 46) (i := 0) rfl dX9_sheet_45 rfl rfl ?_
      refine gj_iconst C (pc' := 47) (v := 3) rfl dX9_sheet_46 (by decide) ?_
      refine gj_callVi C (pc' := 50) rfl dX9_sheet_47 wm_X9_66 uX9_fail h (kX9_fail _ _ _) (by omega) rfl rfl (Nat.le_of_ble_eq_true rfl) (fun v1 w2 h => ?_)
      exact gj_iret C dX9_sheet_50 h
    · refine gj_drop (lv' := [some _, some _, some _, some _]) (And.intro rfl (And.intro rfl (And.intro rfl (And.intro rfl True.intro)))) ?_
      exact kX9_sheet_51 C h
set_option maxHeartbeats 4000000 in
set_option maxRecDepth 100000 in
theorem kX9_sheet : ∀ (x0 : Nat) (x1 : Int32) (x2 : Int32) (x3 : Int32) (w : ab_W) (r : Int32) (w1 : ab_W), sX9_sheet x0 x1 x2 x3 w = some (r, w1) → gj_Mi yX9_sheet cX9_sheet 4 (some .int) 2 [.ref x0, .int x1, .int x2, .int x3] w r w1 ∧ ab_is w 9 x0 = true := by
  intro x0 x1 x2 x3 w r w1 h
  unfold sX9_sheet at h
  obtain ⟨hi, h⟩ := ab_ite h
  refine ⟨?_, hi⟩
  refine gj_Mi_of RX9 [some (.ref x0), some (.int x1), some (.int x2), some (.int x3)] (by decide +kernel) rfl (Nat.le_of_ble_eq_true rfl) rfl (fun p l e s m args below meth c D ad tc A C => ?_)
  refine gj_iload_n C (pc' := 1) (i := 1) rfl dX9_sheet_0 rfl rfl ?_
  refine gj_iconst C (pc' := 2) (v := 0) rfl dX9_sheet_1 (by decide) ?_
  refine gj_iconst C (pc' := 3) (v := 3) rfl dX9_sheet_2 (by decide) ?_
  refine gj_callSi C (pc' := 6) rfl dX9_sheet_3 wm_X9_62 uX9_within h (kX9_within _ _ _ _) (by omega) rfl rfl (Nat.le_of_ble_eq_true rfl) (fun v1 w2 h => ?_)
  refine gj_if_eq C (pc' := 9) (tgt := 31) rfl dX9_sheet_6 rfl h (fun h => ?_) (fun h => ?_)
  · refine gj_drop (lv' := [some _, none, none, none]) (And.intro rfl True.intro) ?_
    exact kX9_sheet_31 C h
  · refine gj_iload_n C (pc' := 10) (i := 2) rfl dX9_sheet_9 rfl rfl ?_
    refine gj_if_eq C (pc' := 13) (tgt := 37) rfl dX9_sheet_10 rfl h (fun h => ?_) (fun h => ?_)
    · refine gj_drop (lv' := [some _, some _, some _, some _]) (And.intro rfl (And.intro rfl (And.intro rfl (And.intro rfl True.intro)))) ?_
      exact kX9_sheet_37 C h
    · refine gj_iload_n C (pc' := 14) (i := 2) rfl dX9_sheet_13 rfl rfl ?_
      refine gj_bipush C (pc' := 16) (v := 8) rfl dX9_sheet_14 (by decide) ?_
      refine gj_icmp_eq C (pc' := 19) (tgt := 37) rfl dX9_sheet_16 rfl h (fun h => ?_) (fun h => ?_)
      · refine gj_drop (lv' := [some _, some _, some _, some _]) (And.intro rfl (And.intro rfl (And.intro rfl (And.intro rfl True.intro)))) ?_
        exact kX9_sheet_37 C h
      · refine gj_iload_n C (pc' := 20) (i := 2) rfl dX9_sheet_19 rfl rfl ?_
        refine gj_bipush C (pc' := 22) (v := 16) rfl dX9_sheet_20 (by decide) ?_
        refine gj_icmp_eq C (pc' := 25) (tgt := 37) rfl dX9_sheet_22 rfl h (fun h => ?_) (fun h => ?_)
        · refine gj_drop (lv' := [some _, some _, some _, some _]) (And.intro rfl (And.intro rfl (And.intro rfl (And.intro rfl True.intro)))) ?_
          exact kX9_sheet_37 C h
        · refine gj_iload_n C (pc' := 26) (i := 2) rfl dX9_sheet_25 rfl rfl ?_
          refine gj_bipush C (pc' := 28) (v := 32) rfl dX9_sheet_26 (by decide) ?_
          refine gj_icmp_eq C (pc' := 31) (tgt := 37) rfl dX9_sheet_28 rfl h (fun h => ?_) (fun h => ?_)
          · refine gj_drop (lv' := [some _, some _, some _, some _]) (And.intro rfl (And.intro rfl (And.intro rfl (And.intro rfl True.intro)))) ?_
            exact kX9_sheet_37 C h
          · refine gj_drop (lv' := [some _, none, none, none]) (And.intro rfl True.intro) ?_
            exact kX9_sheet_31 C h
