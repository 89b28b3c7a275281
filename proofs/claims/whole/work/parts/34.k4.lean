set_option maxHeartbeats 4000000 in
set_option maxRecDepth 100000 in
theorem kX10_ofPaper_18 {p : Program} {l : Launch} {e : Env} {s : State} {m : MethodId} {args : Array Value} {below : List Frame} {meth : Method} {c : Code} {D : va_G} {ad : Nat → Nat} {tc : Nat → ClassId} {A : Nat → Prop} (C : gj_C p s m args meth c D ad tc A cX10_ofPaper 3 (some .int) RX10) {r : Int32} {w1 : ab_W} {x0 : Nat} {w : ab_W} (h : sX10_ofPaper_18 x0 w = some (r, w1)) : gj_G p l e (gj_R 3) s m args below meth c D ad tc A 3 (gj_Qi D ad tc A below args s r w1) 18 [some (.ref x0), none, none] [] w := by
  unfold sX10_ofPaper_18 at h
  refine gj_aload_n C (pc' := 19) (i := 0) rfl dX10_ofPaper_18 rfl rfl ?_
  refine gj_ldc C (pc' := 21) rfl dX10_ofPaper_19 wk_X10_51 ?_
  refine gj_callVi C (pc' := 24) rfl dX10_ofPaper_21 wm_X10_52 uX10_errs h (kX10_errs _ _ _) (by omega) rfl rfl (Nat.le_of_ble_eq_true rfl) (fun v1 w2 h => ?_)
  exact gj_iret C dX10_ofPaper_24 h
set_option maxHeartbeats 4000000 in
set_option maxRecDepth 100000 in
theorem kX10_ofPaper : ∀ (x0 : Nat) (x1 : Int32) (x2 : Int32) (w : ab_W) (r : Int32) (w1 : ab_W), sX10_ofPaper x0 x1 x2 w = some (r, w1) → gj_Mi yX10_ofPaper cX10_ofPaper 3 (some .int) 3 [.ref x0, .int x1, .int x2] w r w1 ∧ ab_is w 10 x0 = true := by
  intro x0 x1 x2 w r w1 h
  unfold sX10_ofPaper at h
  obtain ⟨hi, h⟩ := ab_ite h
  refine ⟨?_, hi⟩
  refine gj_Mi_of RX10 [some (.ref x0), some (.int x1), some (.int x2)] (by decide +kernel) rfl (Nat.le_of_ble_eq_true rfl) rfl (fun p l e s m args below meth c D ad tc A C => ?_)
  refine gj_aload_n C (pc' := 1) (i := 0) rfl dX10_ofPaper_0 rfl rfl ?_
  refine gj_iload_n C (pc' := 2) (i := 1) rfl dX10_ofPaper_1 rfl rfl ?_
  refine gj_callVi C (pc' := 5) rfl dX10_ofPaper_2 wm_X10_61 uX10_isPaper h (kX10_isPaper _ _ _) (by omega) rfl rfl (Nat.le_of_ble_eq_true rfl) (fun v1 w2 h => ?_)
  refine gj_if_eq C (pc' := 8) (tgt := 18) rfl dX10_ofPaper_5 rfl h (fun h => ?_) (fun h => ?_)
  · refine gj_drop (lv' := [some _, none, none]) (And.intro rfl True.intro) ?_
    exact kX10_ofPaper_18 C h
  · refine gj_iload_n C (pc' := 9) (i := 2) rfl dX10_ofPaper_8 rfl rfl ?_
    refine gj_iconst C (pc' := 10) (v := 0) rfl dX10_ofPaper_9 (by decide) ?_
    refine gj_bipush C (pc' := 12) (v := 9) rfl dX10_ofPaper_10 (by decide) ?_
    refine gj_callSi C (pc' := 15) rfl dX10_ofPaper_12 wm_X10_47 uX10_in h (kX10_in _ _ _ _) (by omega) rfl rfl (Nat.le_of_ble_eq_true rfl) (fun v3 w4 h => ?_)
    refine gj_if_ne C (pc' := 18) (tgt := 25) rfl dX10_ofPaper_15 rfl h (fun h => ?_) (fun h => ?_)
    · refine gj_drop (lv' := [some _, none, none]) (And.intro rfl True.intro) ?_
      exact kX10_ofPaper_18 C h
    · refine gj_iload_n C (pc' := 26) (i := 2) rfl dX10_ofPaper_25 rfl rfl ?_
      refine gj_tab C (tgt := 56) dX10_ofPaper_26 6 0 (by decide) (by decide) rfl (by decide) h (fun h => ?_) (fun n26_0 h => ?_)
      · refine gj_aload_n C (pc' := 57) (i := 0) rfl dX10_ofPaper_56 rfl rfl ?_
        refine gj_aload_n C (pc' := 58) (i := 0) rfl dX10_ofPaper_57 rfl rfl ?_
        refine gj_iload_n C (pc' := 59) (i := 1) rfl dX10_ofPaper_58 rfl rfl ?_
        refine gj_iconst C (pc' := 60) (v := 3) rfl dX10_ofPaper_59 (by decide) ?_
        refine gj_callVi C (pc' := 63) rfl dX10_ofPaper_60 wm_X10_65 uX10_its h (kX10_its _ _ _ _) (by omega) rfl rfl (Nat.le_of_ble_eq_true rfl) (fun v5 w6 h => ?_)
        refine gj_callVi C (pc' := 66) rfl dX10_ofPaper_63 wm_X10_69 uX10_wide h (kX10_wide _ _ _) (by omega) rfl rfl (Nat.le_of_ble_eq_true rfl) (fun v7 w8 h => ?_)
        exact gj_iret C dX10_ofPaper_66 h
      refine gj_tab C (tgt := 67) dX10_ofPaper_26 7 1 (by decide) (by decide) rfl (by decide) h (fun h => ?_) (fun n26_1 h => ?_)
      · refine gj_aload_n C (pc' := 68) (i := 0) rfl dX10_ofPaper_67 rfl rfl ?_
        refine gj_aload_n C (pc' := 69) (i := 0) rfl dX10_ofPaper_68 rfl rfl ?_
        refine gj_iload_n C (pc' := 70) (i := 1) rfl dX10_ofPaper_69 rfl rfl ?_
        refine gj_iconst C (pc' := 71) (v := 3) rfl dX10_ofPaper_70 (by decide) ?_
        refine gj_callVi C (pc' := 74) rfl dX10_ofPaper_71 wm_X10_65 uX10_its h (kX10_its _ _ _ _) (by omega) rfl rfl (Nat.le_of_ble_eq_true rfl) (fun v9 w10 h => ?_)
        refine gj_callVi C (pc' := 77) rfl dX10_ofPaper_74 wm_X10_72 uX10_thick h (kX10_thick _ _ _) (by omega) rfl rfl (Nat.le_of_ble_eq_true rfl) (fun v11 w12 h => ?_)
        exact gj_iret C dX10_ofPaper_77 h
      refine gj_tab C (tgt := 78) dX10_ofPaper_26 8 2 (by decide) (by decide) rfl (by decide) h (fun h => ?_) (fun n26_2 h => ?_)
      · refine gj_aload_n C (pc' := 79) (i := 0) rfl dX10_ofPaper_78 rfl rfl ?_
        refine gj_iload_n C (pc' := 80) (i := 1) rfl dX10_ofPaper_79 rfl rfl ?_
        refine gj_callVi C (pc' := 83) rfl dX10_ofPaper_80 wm_X10_75 uX10_stiff h (kX10_stiff _ _ _) (by omega) rfl rfl (Nat.le_of_ble_eq_true rfl) (fun v13 w14 h => ?_)
        exact gj_iret C dX10_ofPaper_83 h
      refine gj_tab C (tgt := 84) dX10_ofPaper_26 9 3 (by decide) (by decide) rfl (by decide) h (fun h => ?_) (fun n26_3 h => ?_)
      · refine gj_aload_n C (pc' := 85) (i := 0) rfl dX10_ofPaper_84 rfl rfl ?_
        refine gj_iload_n C (pc' := 86) (i := 1) rfl dX10_ofPaper_85 rfl rfl ?_
        refine gj_aload_n C (pc' := 87) (i := 0) rfl dX10_ofPaper_86 rfl rfl ?_
        refine gj_iload_n C (pc' := 88) (i := 1) rfl dX10_ofPaper_87 rfl rfl ?_
        refine gj_iconst C (pc' := 89) (v := 3) rfl dX10_ofPaper_88 (by decide) ?_
        refine gj_callVi C (pc' := 92) rfl dX10_ofPaper_89 wm_X10_65 uX10_its h (kX10_its _ _ _ _) (by omega) rfl rfl (Nat.le_of_ble_eq_true rfl) (fun v15 w16 h => ?_)
        refine gj_callVi C (pc' := 95) rfl dX10_ofPaper_92 wm_X10_78 uX10_isAlive h (kX10_isAlive _ _ _ _) (by omega) rfl rfl (Nat.le_of_ble_eq_true rfl) (fun v17 w18 h => ?_)
        refine gj_if_eq C (pc' := 98) (tgt := 102) rfl dX10_ofPaper_95 rfl h (fun h => ?_) (fun h => ?_)
        · refine gj_iconst C (pc' := 103) (v := 0) rfl dX10_ofPaper_102 (by decide) ?_
          exact gj_iret C dX10_ofPaper_103 h
        · refine gj_iconst C (pc' := 99) (v := 1) rfl dX10_ofPaper_98 (by decide) ?_
          refine gj_goto C (tgt := 103) dX10_ofPaper_99 rfl ?_
          exact gj_iret C dX10_ofPaper_103 h
      refine gj_tabD C (tgt := 104) dX10_ofPaper_26 (by decide) (gj_tout _ 6 4 (fun j hj => match j, hj with | 0, _ => lv_neT n26_0 (by decide) | 1, _ => lv_neT n26_1 (by decide) | 2, _ => lv_neT n26_2 (by decide) | 3, _ => lv_neT n26_3 (by decide) | j + 4, hj => absurd hj (by omega))) ?_
      refine gj_aload_n C (pc' := 105) (i := 0) rfl dX10_ofPaper_104 rfl rfl ?_
      refine gj_iload_n C (pc' := 106) (i := 1) rfl dX10_ofPaper_105 rfl rfl ?_
      refine gj_iload_n C (pc' := 107) (i := 2) rfl dX10_ofPaper_106 rfl rfl ?_
      refine gj_callVi C (pc' := 110) rfl dX10_ofPaper_107 wm_X10_65 uX10_its h (kX10_its _ _ _ _) (by omega) rfl rfl (Nat.le_of_ble_eq_true rfl) (fun v19 w20 h => ?_)
      exact gj_iret C dX10_ofPaper_110 h
set_option maxHeartbeats 4000000 in
set_option maxRecDepth 100000 in
theorem kX10_change_65 {p : Program} {l : Launch} {e : Env} {s : State} {m : MethodId} {args : Array Value} {below : List Frame} {meth : Method} {c : Code} {D : va_G} {ad : Nat → Nat} {tc : Nat → ClassId} {A : Nat → Prop} (C : gj_C p s m args meth c D ad tc A cX10_change 5 (some .int) RX10) {r : Int32} {w1 : ab_W} {x0 : Nat} {w : ab_W} (h : sX10_change_65 x0 w = some (r, w1)) : gj_G p l e (gj_R 2) s m args below meth c D ad tc A 5 (gj_Qi D ad tc A below args s r w1) 65 [some (.ref x0), none, none, none, none] [] w := by
  unfold sX10_change_65 at h
  refine gj_aload_n C (pc' := 66) (i := 0) rfl dX10_change_65 rfl rfl ?_
  refine gj_ldc C (pc' := 68) rfl dX10_change_66 wk_X10_51 ?_
  refine gj_callVi C (pc' := 71) rfl dX10_change_68 wm_X10_52 uX10_errs h (kX10_errs _ _ _) (by omega) rfl rfl (Nat.le_of_ble_eq_true rfl) (fun v1 w2 h => ?_)
  exact gj_iret C dX10_change_71 h
set_option maxHeartbeats 4000000 in
set_option maxRecDepth 100000 in
theorem kX10_change_98 {p : Program} {l : Launch} {e : Env} {s : State} {m : MethodId} {args : Array Value} {below : List Frame} {meth : Method} {c : Code} {D : va_G} {ad : Nat → Nat} {tc : Nat → ClassId} {A : Nat → Prop} (C : gj_C p s m args meth c D ad tc A cX10_change 5 (some .int) RX10) {r : Int32} {w1 : ab_W} {x3 : Int32} {p0 : Nat} {p1 : Int32} {p2 : Int32} {w : ab_W} (h : sX10_change_98 x3 p0 p1 p2 w = some (r, w1)) : gj_G p l e (gj_R 2) s m args below meth c D ad tc A 5 (gj_Qi D ad tc A below args s r w1) 98 [none, none, none, some (.int x3), none] [.int p2, .int p1, .ref p0] w := by
  unfold sX10_change_98 at h
  refine gj_iadd C (pc' := 99) rfl dX10_change_98 ?_
  refine gj_iload_n C (pc' := 100) (i := 3) rfl dX10_change_99 rfl rfl ?_
  refine gj_callVi C (pc' := 103) rfl dX10_change_100 wm_X10_82 uX10_becomes h (kX10_becomes _ _ _ _) (by omega) rfl rfl (Nat.le_of_ble_eq_true rfl) (fun v1 w2 h => ?_)
  exact gj_iret C dX10_change_103 h
set_option maxHeartbeats 4000000 in
set_option maxRecDepth 100000 in
theorem kX10_change_50 {p : Program} {l : Launch} {e : Env} {s : State} {m : MethodId} {args : Array Value} {below : List Frame} {meth : Method} {c : Code} {D : va_G} {ad : Nat → Nat} {tc : Nat → ClassId} {A : Nat → Prop} (C : gj_C p s m args meth c D ad tc A cX10_change 5 (some .int) RX10) {r : Int32} {w1 : ab_W} {x0 : Nat} {x1 : Int32} {x2 : Int32} {x3 : Int32} {p0 : Int32} {w : ab_W} (h : sX10_change_50 x0 x1 x2 x3 p0 w = some (r, w1)) : gj_G p l e (gj_R 2) s m args below meth c D ad tc A 5 (gj_Qi D ad tc A below args s r w1) 50 [some (.ref x0), some (.int x1), some (.int x2), some (.int x3), none] [.int p0] w := by
  unfold sX10_change_50 at h
  refine gj_istore C (pc' := 52) (i := 4) (lv' := [_, _, _, _, _]) rfl dX10_change_50 (by decide) rfl rfl ?_
  refine gj_aload_n C (pc' := 53) (i := 0) rfl dX10_change_52 rfl rfl ?_
  refine gj_iload_n C (pc' := 54) (i := 1) rfl dX10_change_53 rfl rfl ?_
  refine gj_callVi C (pc' := 57) rfl dX10_change_54 wm_X10_61 uX10_isPaper h (kX10_isPaper _ _ _) (by omega) rfl rfl (Nat.le_of_ble_eq_true rfl) (fun v1 w2 h => ?_)
  refine gj_if_eq C (pc' := 60) (tgt := 65) rfl dX10_change_57 rfl h (fun h => ?_) (fun h => ?_)
  · refine gj_drop (lv' := [some _, none, none, none, none]) (And.intro rfl True.intro) ?_
    exact kX10_change_65 C h
  · refine gj_iload C (pc' := 62) (i := 4) rfl dX10_change_60 rfl ?_
    refine gj_if_ne C (pc' := 65) (tgt := 72) rfl dX10_change_62 rfl h (fun h => ?_) (fun h => ?_)
    · refine gj_drop (lv' := [some _, none, none, none, none]) (And.intro rfl True.intro) ?_
      exact kX10_change_65 C h
    · refine gj_aload_n C (pc' := 73) (i := 0) rfl dX10_change_72 rfl rfl ?_
      refine gj_bipush C (pc' := 75) (v := 8) rfl dX10_change_73 (by decide) ?_
      refine gj_bipush C (pc' := 77) (v := 6) rfl dX10_change_75 (by decide) ?_
      refine gj_iload_n C (pc' := 78) (i := 1) rfl dX10_change_77 rfl rfl ?_
      refine gj_imul C (pc' := 79) rfl dX10_change_78 ?_
      refine gj_iadd C (pc' := 80) rfl dX10_change_79 ?_
      refine gj_iload_n C (pc' := 81) (i := 2) rfl dX10_change_80 rfl rfl ?_
      refine gj_if_ne C (pc' := 84) (tgt := 88) rfl dX10_change_81 rfl h (fun h => ?_) (fun h => ?_)
      · refine gj_iconst C (pc' := 85) (v := 2) rfl dX10_change_84 (by decide) ?_
        refine gj_goto C (tgt := 98) dX10_change_85 rfl ?_
        refine gj_drop (lv' := [none, none, none, some _, none]) (And.intro rfl True.intro) ?_
        exact kX10_change_98 C h
      · refine gj_iload_n C (pc' := 89) (i := 2) rfl dX10_change_88 rfl rfl ?_
        refine gj_iconst C (pc' := 90) (v := 1) rfl dX10_change_89 (by decide) ?_
        refine gj_icmp_ne C (pc' := 93) (tgt := 97) rfl dX10_change_90 rfl h (fun h => ?_) (fun h => ?_)
        · refine gj_iconst C (pc' := 94) (v := 4) rfl dX10_change_93 (by decide) ?_
          refine gj_goto C (tgt := 98) dX10_change_94 rfl ?_
          refine gj_drop (lv' := [none, none, none, some _, none]) (And.intro rfl True.intro) ?_
          exact kX10_change_98 C h
        · refine gj_iconst C (pc' := 98) (v := 5) rfl dX10_change_97 (by decide) ?_
          refine gj_drop (lv' := [none, none, none, some _, none]) (And.intro rfl True.intro) ?_
          exact kX10_change_98 C h
set_option maxHeartbeats 4000000 in
set_option maxRecDepth 100000 in
theorem kX10_change_49 {p : Program} {l : Launch} {e : Env} {s : State} {m : MethodId} {args : Array Value} {below : List Frame} {meth : Method} {c : Code} {D : va_G} {ad : Nat → Nat} {tc : Nat → ClassId} {A : Nat → Prop} (C : gj_C p s m args meth c D ad tc A cX10_change 5 (some .int) RX10) {r : Int32} {w1 : ab_W} {x0 : Nat} {x1 : Int32} {x2 : Int32} {x3 : Int32} {w : ab_W} (h : sX10_change_49 x0 x1 x2 x3 w = some (r, w1)) : gj_G p l e (gj_R 2) s m args below meth c D ad tc A 5 (gj_Qi D ad tc A below args s r w1) 49 [some (.ref x0), some (.int x1), some (.int x2), some (.int x3), none] [] w := by
  unfold sX10_change_49 at h
  refine gj_iconst C (pc' := 50) (v := 0) rfl dX10_change_49 (by decide) ?_
  refine gj_drop (lv' := [some _, some _, some _, some _, none]) (And.intro rfl (And.intro rfl (And.intro rfl (And.intro rfl True.intro)))) ?_
  exact kX10_change_50 C h
set_option maxHeartbeats 4000000 in
set_option maxRecDepth 100000 in
theorem kX10_change : ∀ (x0 : Nat) (x1 : Int32) (x2 : Int32) (x3 : Int32) (w : ab_W) (r : Int32) (w1 : ab_W), sX10_change x0 x1 x2 x3 w = some (r, w1) → gj_Mi yX10_change cX10_change 5 (some .int) 2 [.ref x0, .int x1, .int x2, .int x3] w r w1 ∧ ab_is w 10 x0 = true := by
  intro x0 x1 x2 x3 w r w1 h
  unfold sX10_change at h
  obtain ⟨hi, h⟩ := ab_ite h
  refine ⟨?_, hi⟩
  refine gj_Mi_of RX10 [some (.ref x0), some (.int x1), some (.int x2), some (.int x3), none] (by decide +kernel) rfl (Nat.le_of_ble_eq_true rfl) rfl (fun p l e s m args below meth c D ad tc A C => ?_)
  refine gj_iload_n C (pc' := 1) (i := 2) rfl dX10_change_0 rfl rfl ?_
  refine gj_if_ne C (pc' := 4) (tgt := 15) rfl dX10_change_1 rfl h (fun h => ?_) (fun h => ?_)
  · refine gj_iload_n C (pc' := 5) (i := 3) rfl dX10_change_4 rfl rfl ?_
    refine gj_iconst C (pc' := 6) (v := 0) rfl dX10_change_5 (by decide) ?_
    refine gj_sipush C (pc' := 9) (v := 9999) rfl dX10_change_6 (by decide) ?_
    refine gj_callSi C (pc' := 12) rfl dX10_change_9 wm_X10_47 uX10_in h (kX10_in _ _ _ _) (by omega) rfl rfl (Nat.le_of_ble_eq_true rfl) (fun v1 w2 h => ?_)
    refine gj_goto C (tgt := 50) dX10_change_12 rfl ?_
    refine gj_drop (lv' := [some _, some _, some _, some _, none]) (And.intro rfl (And.intro rfl (And.intro rfl (And.intro rfl True.intro)))) ?_
    exact kX10_change_50 C h
  · refine gj_iload_n C (pc' := 16) (i := 2) rfl dX10_change_15 rfl rfl ?_
    refine gj_iconst C (pc' := 17) (v := 1) rfl dX10_change_16 (by decide) ?_
    refine gj_icmp_ne C (pc' := 20) (tgt := 29) rfl dX10_change_17 rfl h (fun h => ?_) (fun h => ?_)
    · refine gj_iload_n C (pc' := 21) (i := 3) rfl dX10_change_20 rfl rfl ?_
      refine gj_iconst C (pc' := 22) (v := 0) rfl dX10_change_21 (by decide) ?_
      refine gj_iconst C (pc' := 23) (v := 1) rfl dX10_change_22 (by decide) ?_
      refine gj_callSi C (pc' := 26) rfl dX10_change_23 wm_X10_47 uX10_in h (kX10_in _ _ _ _) (by omega) rfl rfl (Nat.le_of_ble_eq_true rfl) (fun v3 w4 h => ?_)
      refine gj_goto C (tgt := 50) dX10_change_26 rfl ?_
      refine gj_drop (lv' := [some _, some _, some _, some _, none]) (And.intro rfl (And.intro rfl (And.intro rfl (And.intro rfl True.intro)))) ?_
      exact kX10_change_50 C h
    · refine gj_iload_n C (pc' := 30) (i := 2) rfl dX10_change_29 rfl rfl ?_
      refine gj_iconst C (pc' := 31) (v := 2) rfl dX10_change_30 (by decide) ?_
      refine gj_icmp_ne C (pc' := 34) (tgt := 49) rfl dX10_change_31 rfl h (fun h => ?_) (fun h => ?_)
      · refine gj_iload_n C (pc' := 35) (i := 3) rfl dX10_change_34 rfl rfl ?_
        refine gj_iconst C (pc' := 36) (v := 0) rfl dX10_change_35 (by decide) ?_
        refine gj_sipush C (pc' := 39) (v := 999) rfl dX10_change_36 (by decide) ?_
        refine gj_callSi C (pc' := 42) rfl dX10_change_39 wm_X10_47 uX10_in h (kX10_in _ _ _ _) (by omega) rfl rfl (Nat.le_of_ble_eq_true rfl) (fun v5 w6 h => ?_)
        refine gj_if_eq C (pc' := 45) (tgt := 49) rfl dX10_change_42 rfl h (fun h => ?_) (fun h => ?_)
        · refine gj_drop (lv' := [some _, some _, some _, some _, none]) (And.intro rfl (And.intro rfl (And.intro rfl (And.intro rfl True.intro)))) ?_
          exact kX10_change_49 C h
        · refine gj_iconst C (pc' := 46) (v := 1) rfl dX10_change_45 (by decide) ?_
          refine gj_goto C (tgt := 50) dX10_change_46 rfl ?_
          refine gj_drop (lv' := [some _, some _, some _, some _, none]) (And.intro rfl (And.intro rfl (And.intro rfl (And.intro rfl True.intro)))) ?_
          exact kX10_change_50 C h
      · refine gj_drop (lv' := [some _, some _, some _, some _, none]) (And.intro rfl (And.intro rfl (And.intro rfl (And.intro rfl True.intro)))) ?_
        exact kX10_change_49 C h
set_option maxHeartbeats 4000000 in
set_option maxRecDepth 100000 in
theorem kX10_wind : ∀ (x0 : Nat) (x1 : Int32) (w : ab_W) (r : Int32) (w1 : ab_W), sX10_wind x0 x1 w = some (r, w1) → gj_Mi yX10_wind cX10_wind 2 (some .int) 1 [.ref x0, .int x1] w r w1 ∧ ab_is w 10 x0 = true := by
  intro x0 x1 w r w1 h
  unfold sX10_wind at h
  obtain ⟨hi, h⟩ := ab_ite h
  refine ⟨?_, hi⟩
  refine gj_Mi_of RX10 [some (.ref x0), some (.int x1)] (by decide +kernel) rfl (Nat.le_of_ble_eq_true rfl) rfl (fun p l e s m args below meth c D ad tc A C => ?_)
  refine gj_iload_n C (pc' := 1) (i := 1) rfl dX10_wind_0 rfl rfl ?_
  refine gj_iconst C (pc' := 2) (v := 0) rfl dX10_wind_1 (by decide) ?_
  refine gj_bipush C (pc' := 4) (v := 9) rfl dX10_wind_2 (by decide) ?_
  refine gj_callSi C (pc' := 7) rfl dX10_wind_4 wm_X10_47 uX10_in h (kX10_in _ _ _ _) (by omega) rfl rfl (Nat.le_of_ble_eq_true rfl) (fun v1 w2 h => ?_)
  refine gj_if_eq C (pc' := 10) (tgt := 20) rfl dX10_wind_7 rfl h (fun h => ?_) (fun h => ?_)
  · refine gj_aload_n C (pc' := 21) (i := 0) rfl dX10_wind_20 rfl rfl ?_
    refine gj_ldc C (pc' := 23) rfl dX10_wind_21 wk_X10_51 ?_
    refine gj_callVi C (pc' := 26) rfl dX10_wind_23 wm_X10_52 uX10_errs h (kX10_errs _ _ _) (by omega) rfl rfl (Nat.le_of_ble_eq_true rfl) (fun v3 w4 h => ?_)
    exact gj_iret C dX10_wind_26 h
  · refine gj_aload_n C (pc' := 11) (i := 0) rfl dX10_wind_10 rfl rfl ?_
    refine gj_bipush C (pc' := 13) (v := 7) rfl dX10_wind_11 (by decide) ?_
    refine gj_iload_n C (pc' := 14) (i := 1) rfl dX10_wind_13 rfl rfl ?_
    refine gj_callVi C (pc' := 17) rfl dX10_wind_14 wm_X10_82 uX10_becomes h (kX10_becomes _ _ _ _) (by omega) rfl rfl (Nat.le_of_ble_eq_true rfl) (fun v5 w6 h => ?_)
    refine gj_goto C (tgt := 26) dX10_wind_17 rfl ?_
    exact gj_iret C dX10_wind_26 h
set_option maxHeartbeats 4000000 in
set_option maxRecDepth 100000 in
theorem kX10_become_18 {p : Program} {l : Launch} {e : Env} {s : State} {m : MethodId} {args : Array Value} {below : List Frame} {meth : Method} {c : Code} {D : va_G} {ad : Nat → Nat} {tc : Nat → ClassId} {A : Nat → Prop} (C : gj_C p s m args meth c D ad tc A cX10_become 3 (some .int) RX10) {r : Int32} {w1 : ab_W} {x0 : Nat} {w : ab_W} (h : sX10_become_18 x0 w = some (r, w1)) : gj_G p l e (gj_R 2) s m args below meth c D ad tc A 3 (gj_Qi D ad tc A below args s r w1) 18 [some (.ref x0), none, none] [] w := by
  unfold sX10_become_18 at h
  refine gj_aload_n C (pc' := 19) (i := 0) rfl dX10_become_18 rfl rfl ?_
  refine gj_ldc C (pc' := 21) rfl dX10_become_19 wk_X10_51 ?_
  refine gj_callVi C (pc' := 24) rfl dX10_become_21 wm_X10_52 uX10_errs h (kX10_errs _ _ _) (by omega) rfl rfl (Nat.le_of_ble_eq_true rfl) (fun v1 w2 h => ?_)
  exact gj_iret C dX10_become_24 h
set_option maxHeartbeats 4000000 in
set_option maxRecDepth 100000 in
theorem kX10_become : ∀ (x0 : Nat) (x1 : Int32) (x2 : Int32) (w : ab_W) (r : Int32) (w1 : ab_W), sX10_become x0 x1 x2 w = some (r, w1) → gj_Mi yX10_become cX10_become 3 (some .int) 2 [.ref x0, .int x1, .int x2] w r w1 ∧ ab_is w 10 x0 = true := by
  intro x0 x1 x2 w r w1 h
  unfold sX10_become at h
  obtain ⟨hi, h⟩ := ab_ite h
  refine ⟨?_, hi⟩
  refine gj_Mi_of RX10 [some (.ref x0), some (.int x1), some (.int x2)] (by decide +kernel) rfl (Nat.le_of_ble_eq_true rfl) rfl (fun p l e s m args below meth c D ad tc A C => ?_)
  refine gj_aload_n C (pc' := 1) (i := 0) rfl dX10_become_0 rfl rfl ?_
  refine gj_iload_n C (pc' := 2) (i := 1) rfl dX10_become_1 rfl rfl ?_
  refine gj_callVi C (pc' := 5) rfl dX10_become_2 wm_X10_61 uX10_isPaper h (kX10_isPaper _ _ _) (by omega) rfl rfl (Nat.le_of_ble_eq_true rfl) (fun v1 w2 h => ?_)
  refine gj_if_eq C (pc' := 8) (tgt := 18) rfl dX10_become_5 rfl h (fun h => ?_) (fun h => ?_)
  · refine gj_drop (lv' := [some _, none, none]) (And.intro rfl True.intro) ?_
    exact kX10_become_18 C h
  · refine gj_iload_n C (pc' := 9) (i := 2) rfl dX10_become_8 rfl rfl ?_
    refine gj_iconst C (pc' := 10) (v := 0) rfl dX10_become_9 (by decide) ?_
    refine gj_bipush C (pc' := 12) (v := 69) rfl dX10_become_10 (by decide) ?_
    refine gj_callSi C (pc' := 15) rfl dX10_become_12 wm_X10_47 uX10_in h (kX10_in _ _ _ _) (by omega) rfl rfl (Nat.le_of_ble_eq_true rfl) (fun v3 w4 h => ?_)
    refine gj_if_ne C (pc' := 18) (tgt := 25) rfl dX10_become_15 rfl h (fun h => ?_) (fun h => ?_)
    · refine gj_drop (lv' := [some _, none, none]) (And.intro rfl True.intro) ?_
      exact kX10_become_18 C h
    · refine gj_aload_n C (pc' := 26) (i := 0) rfl dX10_become_25 rfl rfl ?_
      refine gj_iload_n C (pc' := 27) (i := 1) rfl dX10_become_26 rfl rfl ?_
      refine gj_iconst C (pc' := 28) (v := 1) rfl dX10_become_27 (by decide) ?_
      refine gj_iload_n C (pc' := 29) (i := 2) rfl dX10_become_28 rfl rfl ?_
      refine gj_bipush C (pc' := 31) (v := 10) rfl dX10_become_29 (by decide) ?_
      refine gj_irem C (pc' := 32) rfl dX10_become_31 h (fun v5 h => ?_)
      refine gj_callVv C (pc' := 35) rfl dX10_become_32 wm_X10_57 uX10_gets h (kX10_gets _ _ _ _ _) (by omega) rfl rfl (Nat.le_of_ble_eq_true rfl) (fun w6 h => ?_)
      refine gj_aload_n C (pc' := 36) (i := 0) rfl dX10_become_35 rfl rfl ?_
      refine gj_bipush C (pc' := 38) (v := 8) rfl dX10_become_36 (by decide) ?_
      refine gj_bipush C (pc' := 40) (v := 6) rfl dX10_become_38 (by decide) ?_
      refine gj_iload_n C (pc' := 41) (i := 1) rfl dX10_become_40 rfl rfl ?_
      refine gj_imul C (pc' := 42) rfl dX10_become_41 ?_
      refine gj_iadd C (pc' := 43) rfl dX10_become_42 ?_
      refine gj_iload_n C (pc' := 44) (i := 2) rfl dX10_become_43 rfl rfl ?_
      refine gj_bipush C (pc' := 46) (v := 10) rfl dX10_become_44 (by decide) ?_
      refine gj_idiv C (pc' := 47) rfl dX10_become_46 h (fun v7 h => ?_)
      refine gj_callVi C (pc' := 50) rfl dX10_become_47 wm_X10_82 uX10_becomes h (kX10_becomes _ _ _ _) (by omega) rfl rfl (Nat.le_of_ble_eq_true rfl) (fun v8 w9 h => ?_)
      exact gj_iret C dX10_become_50 h
set_option maxHeartbeats 4000000 in
set_option maxRecDepth 100000 in
theorem kX10_above : ∀ (x0 : Int32) (w : ab_W) (r : Int32) (w1 : ab_W), sX10_above x0 w = some (r, w1) → gj_Mi yX10_above cX10_above 1 (some .int) 0 [.int x0] w r w1 := by
  intro x0 w r w1 h
  unfold sX10_above at h
  refine gj_Mi_of RX10 [some (.int x0)] (by decide +kernel) rfl (Nat.le_of_ble_eq_true rfl) rfl (fun p l e s m args below meth c D ad tc A C => ?_)
  refine gj_iload_n C (pc' := 1) (i := 0) rfl dX10_above_0 rfl rfl ?_
  refine gj_if_ne C (pc' := 4) (tgt := 8) rfl dX10_above_1 rfl h (fun h => ?_) (fun h => ?_)
  · refine gj_iconst C (pc' := 5) (v := (-1)) rfl dX10_above_4 (by decide) ?_
    refine gj_goto C (tgt := 20) dX10_above_5 rfl ?_
    exact gj_iret C dX10_above_20 h
  · refine gj_iload_n C (pc' := 9) (i := 0) rfl dX10_above_8 rfl rfl ?_
    refine gj_iconst C (pc' := 10) (v := 3) rfl dX10_above_9 (by decide) ?_
    refine gj_icmp_le C (pc' := 13) (tgt := 19) rfl dX10_above_10 rfl h (fun h => ?_) (fun h => ?_)
    · refine gj_iload_n C (pc' := 14) (i := 0) rfl dX10_above_13 rfl rfl ?_
      refine gj_iconst C (pc' := 15) (v := 3) rfl dX10_above_14 (by decide) ?_
      refine gj_isub C (pc' := 16) rfl dX10_above_15 ?_
      refine gj_goto C (tgt := 20) dX10_above_16 rfl ?_
      exact gj_iret C dX10_above_20 h
    · refine gj_iconst C (pc' := 20) (v := 0) rfl dX10_above_19 (by decide) ?_
      exact gj_iret C dX10_above_20 h
set_option maxHeartbeats 4000000 in
set_option maxRecDepth 100000 in
theorem kX10_as_18 {p : Program} {l : Launch} {e : Env} {s : State} {m : MethodId} {args : Array Value} {below : List Frame} {meth : Method} {c : Code} {D : va_G} {ad : Nat → Nat} {tc : Nat → ClassId} {A : Nat → Prop} (C : gj_C p s m args meth c D ad tc A cX10_as 4 (some .int) RX10) {r : Int32} {w1 : ab_W} {x0 : Nat} {w : ab_W} (h : sX10_as_18 x0 w = some (r, w1)) : gj_G p l e (gj_R 2) s m args below meth c D ad tc A 4 (gj_Qi D ad tc A below args s r w1) 18 [some (.ref x0), none, none, none] [] w := by
  unfold sX10_as_18 at h
  refine gj_aload_n C (pc' := 19) (i := 0) rfl dX10_as_18 rfl rfl ?_
  refine gj_ldc C (pc' := 21) rfl dX10_as_19 wk_X10_51 ?_
  refine gj_callVi C (pc' := 24) rfl dX10_as_21 wm_X10_52 uX10_errs h (kX10_errs _ _ _) (by omega) rfl rfl (Nat.le_of_ble_eq_true rfl) (fun v1 w2 h => ?_)
  exact gj_iret C dX10_as_24 h
set_option maxHeartbeats 4000000 in
set_option maxRecDepth 100000 in
theorem kX10_as_49 {p : Program} {l : Launch} {e : Env} {s : State} {m : MethodId} {args : Array Value} {below : List Frame} {meth : Method} {c : Code} {D : va_G} {ad : Nat → Nat} {tc : Nat → ClassId} {A : Nat → Prop} (C : gj_C p s m args meth c D ad tc A cX10_as 4 (some .int) RX10) {r : Int32} {w1 : ab_W} {x0 : Nat} {x1 : Int32} {x3 : Int32} {w : ab_W} (h : sX10_as_49 x0 x1 x3 w = some (r, w1)) : gj_G p l e (gj_R 2) s m args below meth c D ad tc A 4 (gj_Qi D ad tc A below args s r w1) 49 [some (.ref x0), some (.int x1), none, some (.int x3)] [] w := by
  unfold sX10_as_49 at h
  refine gj_iload_n C (pc' := 50) (i := 3) rfl dX10_as_49 rfl rfl ?_
  refine gj_if_ge C (pc' := 53) (tgt := 62) rfl dX10_as_50 rfl h (fun h => ?_) (fun h => ?_)
  · refine gj_aload_n C (pc' := 54) (i := 0) rfl dX10_as_53 rfl rfl ?_
    refine gj_ldc C (pc' := 56) rfl dX10_as_54 wk_X10_88 ?_
    refine gj_callVi C (pc' := 59) rfl dX10_as_56 wm_X10_52 uX10_errs h (kX10_errs _ _ _) (by omega) rfl rfl (Nat.le_of_ble_eq_true rfl) (fun v1 w2 h => ?_)
    refine gj_goto C (tgt := 68) dX10_as_59 rfl ?_
    exact gj_iret C dX10_as_68 h
  · refine gj_aload_n C (pc' := 63) (i := 0) rfl dX10_as_62 rfl rfl ?_
    refine gj_iload_n C (pc' := 64) (i := 1) rfl dX10_as_63 rfl rfl ?_
    refine gj_iconst C (pc' := 65) (v := 1) rfl dX10_as_64 (by decide) ?_
    refine gj_callVi C (pc' := 68) rfl dX10_as_65 wm_X10_65 uX10_its h (kX10_its _ _ _ _) (by omega) rfl rfl (Nat.le_of_ble_eq_true rfl) (fun v3 w4 h => ?_)
    exact gj_iret C dX10_as_68 h
set_option maxHeartbeats 4000000 in
set_option maxRecDepth 100000 in
theorem kX10_as_32 {p : Program} {l : Launch} {e : Env} {s : State} {m : MethodId} {args : Array Value} {below : List Frame} {meth : Method} {c : Code} {D : va_G} {ad : Nat → Nat} {tc : Nat → ClassId} {A : Nat → Prop} (C : gj_C p s m args meth c D ad tc A cX10_as 4 (some .int) RX10) {r : Int32} {w1 : ab_W} : ∀ {n : Nat} {x0 : Nat} {x1 : Int32} {x2 : Int32} {x3 : Int32} {w : ab_W}, sX10_as_32 n x0 x1 x2 x3 w = some (r, w1) → gj_G p l e (gj_R 2) s m args below meth c D ad tc A 4 (gj_Qi D ad tc A below args s r w1) 32 [some (.ref x0), some (.int x1), some (.int x2), some (.int x3)] [] w := by
  intro n
  induction n with
  | zero =>
    intros
    rename_i h
    cases h
  | succ n ih =>
    intro x0 x1 x2 x3 w h
    rw [sX10_as_32] at h
    refine gj_iload_n C (pc' := 33) (i := 3) rfl dX10_as_32 rfl rfl ?_
    refine gj_if_lt C (pc' := 36) (tgt := 49) rfl dX10_as_33 rfl h (fun h => ?_) (fun h => ?_)
    · refine gj_drop (lv' := [some _, some _, none, some _]) (And.intro rfl (And.intro rfl (And.intro rfl True.intro))) ?_
      exact kX10_as_49 C h
    · refine gj_iload_n C (pc' := 37) (i := 3) rfl dX10_as_36 rfl rfl ?_
      refine gj_iload_n C (pc' := 38) (i := 2) rfl dX10_as_37 rfl rfl ?_
      refine gj_icmp_eq C (pc' := 41) (tgt := 49) rfl dX10_as_38 rfl h (fun h => ?_) (fun h => ?_)
      · refine gj_drop (lv' := [some _, some _, none, some _]) (And.intro rfl (And.intro rfl (And.intro rfl True.intro))) ?_
        exact kX10_as_49 C h
      · refine gj_iload_n C (pc' := 42) (i := 3) rfl dX10_as_41 rfl rfl ?_
        refine gj_callSi C (pc' := 45) rfl dX10_as_42 wm_X10_85 uX10_above h (kX10_above _ _) (by omega) rfl rfl (Nat.le_of_ble_eq_true rfl) (fun v1 w2 h => ?_)
        refine gj_istore_n C (pc' := 46) (i := 3) (lv' := [_, _, _, _]) rfl dX10_as_45 rfl (by decide) rfl rfl ?_
        refine gj_goto C (tgt := 32) dX10_as_46 rfl ?_
        refine gj_drop (lv' := [some _, some _, some _, some _]) (And.intro rfl (And.intro rfl (And.intro rfl (And.intro rfl True.intro)))) ?_
        exact ih h
set_option maxHeartbeats 4000000 in
set_option maxRecDepth 100000 in
theorem kX10_as : ∀ (x0 : Nat) (x1 : Int32) (x2 : Int32) (w : ab_W) (r : Int32) (w1 : ab_W), sX10_as x0 x1 x2 w = some (r, w1) → gj_Mi yX10_as cX10_as 4 (some .int) 2 [.ref x0, .int x1, .int x2] w r w1 ∧ ab_is w 10 x0 = true := by
  intro x0 x1 x2 w r w1 h
  unfold sX10_as at h
  obtain ⟨hi, h⟩ := ab_ite h
  refine ⟨?_, hi⟩
  refine gj_Mi_of RX10 [some (.ref x0), some (.int x1), some (.int x2), none] (by decide +kernel) rfl (Nat.le_of_ble_eq_true rfl) rfl (fun p l e s m args below meth c D ad tc A C => ?_)
  refine gj_aload_n C (pc' := 1) (i := 0) rfl dX10_as_0 rfl rfl ?_
  refine gj_iload_n C (pc' := 2) (i := 1) rfl dX10_as_1 rfl rfl ?_
  refine gj_callVi C (pc' := 5) rfl dX10_as_2 wm_X10_61 uX10_isPaper h (kX10_isPaper _ _ _) (by omega) rfl rfl (Nat.le_of_ble_eq_true rfl) (fun v1 w2 h => ?_)
  refine gj_if_eq C (pc' := 8) (tgt := 18) rfl dX10_as_5 rfl h (fun h => ?_) (fun h => ?_)
  · refine gj_drop (lv' := [some _, none, none, none]) (And.intro rfl True.intro) ?_
    exact kX10_as_18 C h
  · refine gj_iload_n C (pc' := 9) (i := 2) rfl dX10_as_8 rfl rfl ?_
    refine gj_iconst C (pc' := 10) (v := 0) rfl dX10_as_9 (by decide) ?_
    refine gj_bipush C (pc' := 12) (v := 6) rfl dX10_as_10 (by decide) ?_
    refine gj_callSi C (pc' := 15) rfl dX10_as_12 wm_X10_47 uX10_in h (kX10_in _ _ _ _) (by omega) rfl rfl (Nat.le_of_ble_eq_true rfl) (fun v3 w4 h => ?_)
    refine gj_if_ne C (pc' := 18) (tgt := 25) rfl dX10_as_15 rfl h (fun h => ?_) (fun h => ?_)
    · refine gj_drop (lv' := [some _, none, none, none]) (And.intro rfl True.intro) ?_
      exact kX10_as_18 C h
    · refine gj_aload_n C (pc' := 26) (i := 0) rfl dX10_as_25 rfl rfl ?_
      refine gj_iload_n C (pc' := 27) (i := 1) rfl dX10_as_26 rfl rfl ?_
      refine gj_iconst C (pc' := 28) (v := 0) rfl dX10_as_27 (by decide) ?_
      refine gj_callVi C (pc' := 31) rfl dX10_as_28 wm_X10_65 uX10_its h (kX10_its _ _ _ _) (by omega) rfl rfl (Nat.le_of_ble_eq_true rfl) (fun v5 w6 h => ?_)
      refine gj_istore_n C (pc' := 32) (i := 3) (lv' := [_, _, _, _]) rfl dX10_as_31 rfl (by decide) rfl rfl ?_
      refine gj_drop (lv' := [some _, some _, some _, some _]) (And.intro rfl (And.intro rfl (And.intro rfl (And.intro rfl True.intro)))) ?_
      exact kX10_as_32 C h
set_option maxHeartbeats 4000000 in
set_option maxRecDepth 100000 in
theorem kX10_byteAt : ∀ (x0 : Nat) (x1 : Int32) (w : ab_W) (r : Int32) (w1 : ab_W), sX10_byteAt x0 x1 w = some (r, w1) → gj_Mi yX10_byteAt cX10_byteAt 2 (some .int) 0 [.ref x0, .int x1] w r w1 ∧ ab_is w 10 x0 = true := by
  intro x0 x1 w r w1 h
  unfold sX10_byteAt at h
  obtain ⟨hi, h⟩ := ab_ite h
  refine ⟨?_, hi⟩
  refine gj_Mi_of RX10 [some (.ref x0), some (.int x1)] (by decide +kernel) rfl (Nat.le_of_ble_eq_true rfl) rfl (fun p l e s m args below meth c D ad tc A C => ?_)
  refine gj_iload_n C (pc' := 1) (i := 1) rfl dX10_byteAt_0 rfl rfl ?_
  refine gj_aload_n C (pc' := 2) (i := 0) rfl dX10_byteAt_1 rfl rfl ?_
  refine gj_getI C (pc' := 5) rfl dX10_byteAt_2 wf_X10_89 h (fun v1 h => ?_)
  refine gj_icmp_ge C (pc' := 8) (tgt := 28) rfl dX10_byteAt_5 rfl h (fun h => ?_) (fun h => ?_)
  · refine gj_aload_n C (pc' := 9) (i := 0) rfl dX10_byteAt_8 rfl rfl ?_
    refine gj_getR C (pc' := 12) rfl dX10_byteAt_9 wf_X10_7 h (fun v2 h => ?_)
    refine gj_bipush C (pc' := 14) (v := 126) rfl dX10_byteAt_12 (by decide) ?_
    refine gj_bipush C (pc' := 16) (v := 50) rfl dX10_byteAt_14 (by decide) ?_
    refine gj_aload_n C (pc' := 17) (i := 0) rfl dX10_byteAt_16 rfl rfl ?_
    refine gj_getI C (pc' := 20) rfl dX10_byteAt_17 wf_X10_93 h (fun v3 h => ?_)
    refine gj_imul C (pc' := 21) rfl dX10_byteAt_20 ?_
    refine gj_iadd C (pc' := 22) rfl dX10_byteAt_21 ?_
    refine gj_iload_n C (pc' := 23) (i := 1) rfl dX10_byteAt_22 rfl rfl ?_
    refine gj_iadd C (pc' := 24) rfl dX10_byteAt_23 ?_
    refine gj_iald C (pc' := 25) rfl dX10_byteAt_24 h (fun v4 h => ?_)
    refine gj_goto C (tgt := 29) dX10_byteAt_25 rfl ?_
    exact gj_iret C dX10_byteAt_29 h
  · refine gj_iconst C (pc' := 29) (v := (-1)) rfl dX10_byteAt_28 (by decide) ?_
    exact gj_iret C dX10_byteAt_29 h
set_option maxHeartbeats 4000000 in
set_option maxRecDepth 100000 in
theorem kX10_isDigit : ∀ (x0 : Int32) (w : ab_W) (r : Int32) (w1 : ab_W), sX10_isDigit x0 w = some (r, w1) → gj_Mi yX10_isDigit cX10_isDigit 1 (some .boolean) 1 [.int x0] w r w1 := by
  intro x0 w r w1 h
  unfold sX10_isDigit at h
  refine gj_Mi_of RX10 [some (.int x0)] (by decide +kernel) rfl (Nat.le_of_ble_eq_true rfl) rfl (fun p l e s m args below meth c D ad tc A C => ?_)
  refine gj_iload_n C (pc' := 1) (i := 0) rfl dX10_isDigit_0 rfl rfl ?_
  refine gj_bipush C (pc' := 3) (v := 48) rfl dX10_isDigit_1 (by decide) ?_
  refine gj_bipush C (pc' := 5) (v := 57) rfl dX10_isDigit_3 (by decide) ?_
  refine gj_callSi C (pc' := 8) rfl dX10_isDigit_5 wm_X10_47 uX10_in h (kX10_in _ _ _ _) (by omega) rfl rfl (Nat.le_of_ble_eq_true rfl) (fun v1 w2 h => ?_)
  exact gj_zret C dX10_isDigit_8 h
set_option maxHeartbeats 4000000 in
set_option maxRecDepth 100000 in
theorem kX10_fails : ∀ (x0 : Nat) (w : ab_W) (r : Int32) (w1 : ab_W), sX10_fails x0 w = some (r, w1) → gj_Mi yX10_fails cX10_fails 1 (some .int) 0 [.ref x0] w r w1 ∧ ab_is w 10 x0 = true := by
  intro x0 w r w1 h
  unfold sX10_fails at h
  obtain ⟨hi, h⟩ := ab_ite h
  refine ⟨?_, hi⟩
  refine gj_Mi_of RX10 [some (.ref x0)] (by decide +kernel) rfl (Nat.le_of_ble_eq_true rfl) rfl (fun p l e s m args below meth c D ad tc A C => ?_)
  refine gj_aload_n C (pc' := 1) (i := 0) rfl dX10_fails_0 rfl rfl ?_
  refine gj_iconst C (pc' := 2) (v := 0) rfl dX10_fails_1 (by decide) ?_
  refine gj_putZ C (pc' := 5) (ty := .int) rfl dX10_fails_2 wf_X10_96 wp_X10_14 rfl h (fun w1 h => ?_)
  refine gj_iconst C (pc' := 6) (v := 0) rfl dX10_fails_5 (by decide) ?_
  exact gj_iret C dX10_fails_6 h
set_option maxHeartbeats 4000000 in
set_option maxRecDepth 100000 in
theorem kX10_number_4 {p : Program} {l : Launch} {e : Env} {s : State} {m : MethodId} {args : Array Value} {below : List Frame} {meth : Method} {c : Code} {D : va_G} {ad : Nat → Nat} {tc : Nat → ClassId} {A : Nat → Prop} (C : gj_C p s m args meth c D ad tc A cX10_number 3 (some .int) RX10) {r : Int32} {w1 : ab_W} : ∀ {n : Nat} {x0 : Nat} {x1 : Int32} {x2 : Int32} {w : ab_W}, sX10_number_4 n x0 x1 x2 w = some (r, w1) → gj_G p l e (gj_R 2) s m args below meth c D ad tc A 3 (gj_Qi D ad tc A below args s r w1) 4 [some (.ref x0), some (.int x1), some (.int x2)] [] w := by
  intro n
  induction n with
  | zero =>
    intros
    rename_i h
    cases h
  | succ n ih =>
    intro x0 x1 x2 w h
    rw [sX10_number_4] at h
    refine gj_iload_n C (pc' := 5) (i := 2) rfl dX10_number_4 rfl rfl ?_
    refine gj_iconst C (pc' := 6) (v := 4) rfl dX10_number_5 (by decide) ?_
    refine gj_icmp_ge C (pc' := 9) (tgt := 56) rfl dX10_number_6 rfl h (fun h => ?_) (fun h => ?_)
    · refine gj_aload_n C (pc' := 10) (i := 0) rfl dX10_number_9 rfl rfl ?_
      refine gj_aload_n C (pc' := 11) (i := 0) rfl dX10_number_10 rfl rfl ?_
      refine gj_getI C (pc' := 14) rfl dX10_number_11 wf_X10_100 h (fun v1 h => ?_)
      refine gj_callVi C (pc' := 17) rfl dX10_number_14 wm_X10_103 uX10_byteAt h (kX10_byteAt _ _ _) (by omega) rfl rfl (Nat.le_of_ble_eq_true rfl) (fun v2 w3 h => ?_)
      refine gj_callSi C (pc' := 20) rfl dX10_number_17 wm_X10_106 uX10_isDigit h (kX10_isDigit _ _) (by omega) rfl rfl (Nat.le_of_ble_eq_true rfl) (fun v4 w5 h => ?_)
      refine gj_if_eq C (pc' := 23) (tgt := 56) rfl dX10_number_20 rfl h (fun h => ?_) (fun h => ?_)
      · refine gj_iload_n C (pc' := 57) (i := 1) rfl dX10_number_56 rfl rfl ?_
        exact gj_iret C dX10_number_57 h
      · refine gj_bipush C (pc' := 25) (v := 10) rfl dX10_number_23 (by decide) ?_
        refine gj_iload_n C (pc' := 26) (i := 1) rfl dX10_number_25 rfl rfl ?_
        refine gj_imul C (pc' := 27) rfl dX10_number_26 ?_
        refine gj_aload_n C (pc' := 28) (i := 0) rfl dX10_number_27 rfl rfl ?_
        refine gj_aload_n C (pc' := 29) (i := 0) rfl dX10_number_28 rfl rfl ?_
        refine gj_getI C (pc' := 32) rfl dX10_number_29 wf_X10_100 h (fun v6 h => ?_)
        refine gj_callVi C (pc' := 35) rfl dX10_number_32 wm_X10_103 uX10_byteAt h (kX10_byteAt _ _ _) (by omega) rfl rfl (Nat.le_of_ble_eq_true rfl) (fun v7 w8 h => ?_)
        refine gj_iadd C (pc' := 36) rfl dX10_number_35 ?_
        refine gj_bipush C (pc' := 38) (v := 48) rfl dX10_number_36 (by decide) ?_
        refine gj_isub C (pc' := 39) rfl dX10_number_38 ?_
        refine gj_istore_n C (pc' := 40) (i := 1) (lv' := [_, _, _]) rfl dX10_number_39 rfl (by decide) rfl rfl ?_
        refine gj_aload_n C (pc' := 41) (i := 0) rfl dX10_number_40 rfl rfl ?_
        refine gj_dup C (pc' := 42) rfl dX10_number_41 rfl ?_
        refine gj_getI C (pc' := 45) rfl dX10_number_42 wf_X10_100 h (fun v9 h => ?_)
        refine gj_iconst C (pc' := 46) (v := 1) rfl dX10_number_45 (by decide) ?_
        refine gj_iadd C (pc' := 47) rfl dX10_number_46 ?_
        refine gj_putI C (pc' := 50) (ty := .int) rfl dX10_number_47 wf_X10_100 wp_X10_8 rfl h (fun w10 h => ?_)
        refine gj_iinc C (pc' := 53) (i := 2) (v := _ + 1) (lv' := [_, _, _]) rfl dX10_number_50 rfl rfl (by decide) rfl rfl ?_
        refine gj_goto C (tgt := 4) dX10_number_53 rfl ?_
        refine gj_drop (lv' := [some _, some _, some _]) (And.intro rfl (And.intro rfl (And.intro rfl True.intro))) ?_
        exact ih h
    · refine gj_iload_n C (pc' := 57) (i := 1) rfl dX10_number_56 rfl rfl ?_
      exact gj_iret C dX10_number_57 h
set_option maxHeartbeats 4000000 in
set_option maxRecDepth 100000 in
theorem kX10_number : ∀ (x0 : Nat) (w : ab_W) (r : Int32) (w1 : ab_W), sX10_number x0 w = some (r, w1) → gj_Mi yX10_number cX10_number 3 (some .int) 2 [.ref x0] w r w1 ∧ ab_is w 10 x0 = true := by
  intro x0 w r w1 h
  unfold sX10_number at h
  obtain ⟨hi, h⟩ := ab_ite h
  refine ⟨?_, hi⟩
  refine gj_Mi_of RX10 [some (.ref x0), none, none] (by decide +kernel) rfl (Nat.le_of_ble_eq_true rfl) rfl (fun p l e s m args below meth c D ad tc A C => ?_)
  refine gj_iconst C (pc' := 1) (v := 0) rfl dX10_number_0 (by decide) ?_
  refine gj_istore_n C (pc' := 2) (i := 1) (lv' := [_, _, _]) rfl dX10_number_1 rfl (by decide) rfl rfl ?_
  refine gj_iconst C (pc' := 3) (v := 0) rfl dX10_number_2 (by decide) ?_
  refine gj_istore_n C (pc' := 4) (i := 2) (lv' := [_, _, _]) rfl dX10_number_3 rfl (by decide) rfl rfl ?_
  refine gj_drop (lv' := [some _, some _, some _]) (And.intro rfl (And.intro rfl (And.intro rfl True.intro))) ?_
  exact kX10_number_4 C h
set_option maxHeartbeats 4000000 in
set_option maxRecDepth 100000 in
theorem kX10_named_91 {p : Program} {l : Launch} {e : Env} {s : State} {m : MethodId} {args : Array Value} {below : List Frame} {meth : Method} {c : Code} {D : va_G} {ad : Nat → Nat} {tc : Nat → ClassId} {A : Nat → Prop} (C : gj_C p s m args meth c D ad tc A cX10_named 5 (some .int) RX10) {r : Int32} {w1 : ab_W} {x0 : Nat} {x2 : Int32} {x3 : Int32} {w : ab_W} (h : sX10_named_91 x0 x2 x3 w = some (r, w1)) : gj_G p l e (gj_R 1) s m args below meth c D ad tc A 5 (gj_Qi D ad tc A below args s r w1) 91 [some (.ref x0), none, some (.int x2), some (.int x3), none] [] w := by
  unfold sX10_named_91 at h
  refine gj_aload_n C (pc' := 92) (i := 0) rfl dX10_named_91 rfl rfl ?_
  refine gj_dup C (pc' := 93) rfl dX10_named_92 rfl ?_
  refine gj_getI C (pc' := 96) rfl dX10_named_93 wf_X10_100 h (fun v1 h => ?_)
  refine gj_iconst C (pc' := 97) (v := 1) rfl dX10_named_96 (by decide) ?_
  refine gj_iadd C (pc' := 98) rfl dX10_named_97 ?_
  refine gj_putI C (pc' := 101) (ty := .int) rfl dX10_named_98 wf_X10_100 wp_X10_8 rfl h (fun w2 h => ?_)
  refine gj_iload_n C (pc' := 102) (i := 2) rfl dX10_named_101 rfl rfl ?_
  refine gj_if_eq C (pc' := 105) (tgt := 112) rfl dX10_named_102 rfl h (fun h => ?_) (fun h => ?_)
  · refine gj_iload_n C (pc' := 113) (i := 3) rfl dX10_named_112 rfl rfl ?_
    refine gj_if_eq C (pc' := 116) (tgt := 123) rfl dX10_named_113 rfl h (fun h => ?_) (fun h => ?_)
    · refine gj_aload_n C (pc' := 124) (i := 0) rfl dX10_named_123 rfl rfl ?_
      refine gj_getI C (pc' := 127) rfl dX10_named_124 wf_X10_119 h (fun v3 h => ?_)
      exact gj_iret C dX10_named_127 h
    · refine gj_aload_n C (pc' := 117) (i := 0) rfl dX10_named_116 rfl rfl ?_
      refine gj_getI C (pc' := 120) rfl dX10_named_117 wf_X10_116 h (fun v4 h => ?_)
      refine gj_goto C (tgt := 127) dX10_named_120 rfl ?_
      exact gj_iret C dX10_named_127 h
  · refine gj_aload_n C (pc' := 106) (i := 0) rfl dX10_named_105 rfl rfl ?_
    refine gj_getI C (pc' := 109) rfl dX10_named_106 wf_X10_113 h (fun v5 h => ?_)
    refine gj_goto C (tgt := 127) dX10_named_109 rfl ?_
    exact gj_iret C dX10_named_127 h
set_option maxHeartbeats 4000000 in
set_option maxRecDepth 100000 in
theorem kX10_named_71 {p : Program} {l : Launch} {e : Env} {s : State} {m : MethodId} {args : Array Value} {below : List Frame} {meth : Method} {c : Code} {D : va_G} {ad : Nat → Nat} {tc : Nat → ClassId} {A : Nat → Prop} (C : gj_C p s m args meth c D ad tc A cX10_named 5 (some .int) RX10) {r : Int32} {w1 : ab_W} {x0 : Nat} {x2 : Int32} {x3 : Int32} {p0 : Int32} {w : ab_W} (h : sX10_named_71 x0 x2 x3 p0 w = some (r, w1)) : gj_G p l e (gj_R 1) s m args below meth c D ad tc A 5 (gj_Qi D ad tc A below args s r w1) 71 [some (.ref x0), none, some (.int x2), some (.int x3), none] [.int p0] w := by
  unfold sX10_named_71 at h
  refine gj_istore C (pc' := 73) (i := 4) (lv' := [_, _, _, _, _]) rfl dX10_named_71 (by decide) rfl rfl ?_
  refine gj_iload_n C (pc' := 74) (i := 2) rfl dX10_named_73 rfl rfl ?_
  refine gj_if_ne C (pc' := 77) (tgt := 91) rfl dX10_named_74 rfl h (fun h => ?_) (fun h => ?_)
  · refine gj_iload_n C (pc' := 78) (i := 3) rfl dX10_named_77 rfl rfl ?_
    refine gj_if_ne C (pc' := 81) (tgt := 91) rfl dX10_named_78 rfl h (fun h => ?_) (fun h => ?_)
    · refine gj_iload C (pc' := 83) (i := 4) rfl dX10_named_81 rfl ?_
      refine gj_if_ne C (pc' := 86) (tgt := 91) rfl dX10_named_83 rfl h (fun h => ?_) (fun h => ?_)
      · refine gj_aload_n C (pc' := 87) (i := 0) rfl dX10_named_86 rfl rfl ?_
        refine gj_callVi C (pc' := 90) rfl dX10_named_87 wm_X10_109 uX10_fails h (kX10_fails _ _) (by omega) rfl rfl (Nat.le_of_ble_eq_true rfl) (fun v1 w2 h => ?_)
        exact gj_iret C dX10_named_90 h
      · refine gj_drop (lv' := [some _, none, some _, some _, none]) (And.intro rfl (And.intro rfl (And.intro rfl True.intro))) ?_
        exact kX10_named_91 C h
    · refine gj_drop (lv' := [some _, none, some _, some _, none]) (And.intro rfl (And.intro rfl (And.intro rfl True.intro))) ?_
      exact kX10_named_91 C h
  · refine gj_drop (lv' := [some _, none, some _, some _, none]) (And.intro rfl (And.intro rfl (And.intro rfl True.intro))) ?_
    exact kX10_named_91 C h
set_option maxHeartbeats 4000000 in
set_option maxRecDepth 100000 in
theorem kX10_named_63 {p : Program} {l : Launch} {e : Env} {s : State} {m : MethodId} {args : Array Value} {below : List Frame} {meth : Method} {c : Code} {D : va_G} {ad : Nat → Nat} {tc : Nat → ClassId} {A : Nat → Prop} (C : gj_C p s m args meth c D ad tc A cX10_named 5 (some .int) RX10) {r : Int32} {w1 : ab_W} {x0 : Nat} {x2 : Int32} {x3 : Int32} {p0 : Int32} {p1 : Int32} {w : ab_W} (h : sX10_named_63 x0 x2 x3 p0 p1 w = some (r, w1)) : gj_G p l e (gj_R 1) s m args below meth c D ad tc A 5 (gj_Qi D ad tc A below args s r w1) 63 [some (.ref x0), none, some (.int x2), some (.int x3), none] [.int p1, .int p0] w := by
  unfold sX10_named_63 at h
  refine gj_icmp_ne C (pc' := 66) (tgt := 70) rfl dX10_named_63 rfl h (fun h => ?_) (fun h => ?_)
  · refine gj_iconst C (pc' := 67) (v := 1) rfl dX10_named_66 (by decide) ?_
    refine gj_goto C (tgt := 71) dX10_named_67 rfl ?_
    refine gj_drop (lv' := [some _, none, some _, some _, none]) (And.intro rfl (And.intro rfl (And.intro rfl True.intro))) ?_
    exact kX10_named_71 C h
  · refine gj_iconst C (pc' := 71) (v := 0) rfl dX10_named_70 (by decide) ?_
    refine gj_drop (lv' := [some _, none, some _, some _, none]) (And.intro rfl (And.intro rfl (And.intro rfl True.intro))) ?_
    exact kX10_named_71 C h
set_option maxHeartbeats 4000000 in
set_option maxRecDepth 100000 in
theorem kX10_named_47 {p : Program} {l : Launch} {e : Env} {s : State} {m : MethodId} {args : Array Value} {below : List Frame} {meth : Method} {c : Code} {D : va_G} {ad : Nat → Nat} {tc : Nat → ClassId} {A : Nat → Prop} (C : gj_C p s m args meth c D ad tc A cX10_named 5 (some .int) RX10) {r : Int32} {w1 : ab_W} {x0 : Nat} {x1 : Int32} {x2 : Int32} {p0 : Int32} {w : ab_W} (h : sX10_named_47 x0 x1 x2 p0 w = some (r, w1)) : gj_G p l e (gj_R 1) s m args below meth c D ad tc A 5 (gj_Qi D ad tc A below args s r w1) 47 [some (.ref x0), some (.int x1), some (.int x2), none, none] [.int p0] w := by
  unfold sX10_named_47 at h
  refine gj_istore_n C (pc' := 48) (i := 3) (lv' := [_, _, _, _, _]) rfl dX10_named_47 rfl (by decide) rfl rfl ?_
  refine gj_iload_n C (pc' := 49) (i := 1) rfl dX10_named_48 rfl rfl ?_
  refine gj_aload_n C (pc' := 50) (i := 0) rfl dX10_named_49 rfl rfl ?_
  refine gj_getI C (pc' := 53) rfl dX10_named_50 wf_X10_93 h (fun v1 h => ?_)
  refine gj_if_ne C (pc' := 56) (tgt := 61) rfl dX10_named_53 rfl h (fun h => ?_) (fun h => ?_)
  · refine gj_bipush C (pc' := 58) (v := 98) rfl dX10_named_56 (by decide) ?_
    refine gj_goto C (tgt := 63) dX10_named_58 rfl ?_
    refine gj_drop (lv' := [some _, none, some _, some _, none]) (And.intro rfl (And.intro rfl (And.intro rfl True.intro))) ?_
    exact kX10_named_63 C h
  · refine gj_bipush C (pc' := 63) (v := 100) rfl dX10_named_61 (by decide) ?_
    refine gj_drop (lv' := [some _, none, some _, some _, none]) (And.intro rfl (And.intro rfl (And.intro rfl True.intro))) ?_
    exact kX10_named_63 C h
set_option maxHeartbeats 4000000 in
set_option maxRecDepth 100000 in
theorem kX10_named_39 {p : Program} {l : Launch} {e : Env} {s : State} {m : MethodId} {args : Array Value} {below : List Frame} {meth : Method} {c : Code} {D : va_G} {ad : Nat → Nat} {tc : Nat → ClassId} {A : Nat → Prop} (C : gj_C p s m args meth c D ad tc A cX10_named 5 (some .int) RX10) {r : Int32} {w1 : ab_W} {x0 : Nat} {x1 : Int32} {x2 : Int32} {p0 : Int32} {p1 : Int32} {w : ab_W} (h : sX10_named_39 x0 x1 x2 p0 p1 w = some (r, w1)) : gj_G p l e (gj_R 1) s m args below meth c D ad tc A 5 (gj_Qi D ad tc A below args s r w1) 39 [some (.ref x0), some (.int x1), some (.int x2), none, none] [.int p1, .int p0] w := by
  unfold sX10_named_39 at h
  refine gj_icmp_ne C (pc' := 42) (tgt := 46) rfl dX10_named_39 rfl h (fun h => ?_) (fun h => ?_)
  · refine gj_iconst C (pc' := 43) (v := 1) rfl dX10_named_42 (by decide) ?_
    refine gj_goto C (tgt := 47) dX10_named_43 rfl ?_
    refine gj_drop (lv' := [some _, some _, some _, none, none]) (And.intro rfl (And.intro rfl (And.intro rfl True.intro))) ?_
    exact kX10_named_47 C h
  · refine gj_iconst C (pc' := 47) (v := 0) rfl dX10_named_46 (by decide) ?_
    refine gj_drop (lv' := [some _, some _, some _, none, none]) (And.intro rfl (And.intro rfl (And.intro rfl True.intro))) ?_
    exact kX10_named_47 C h
set_option maxHeartbeats 4000000 in
set_option maxRecDepth 100000 in
theorem kX10_named_23 {p : Program} {l : Launch} {e : Env} {s : State} {m : MethodId} {args : Array Value} {below : List Frame} {meth : Method} {c : Code} {D : va_G} {ad : Nat → Nat} {tc : Nat → ClassId} {A : Nat → Prop} (C : gj_C p s m args meth c D ad tc A cX10_named 5 (some .int) RX10) {r : Int32} {w1 : ab_W} {x0 : Nat} {x1 : Int32} {p0 : Int32} {w : ab_W} (h : sX10_named_23 x0 x1 p0 w = some (r, w1)) : gj_G p l e (gj_R 1) s m args below meth c D ad tc A 5 (gj_Qi D ad tc A below args s r w1) 23 [some (.ref x0), some (.int x1), none, none, none] [.int p0] w := by
  unfold sX10_named_23 at h
  refine gj_istore_n C (pc' := 24) (i := 2) (lv' := [_, _, _, _, _]) rfl dX10_named_23 rfl (by decide) rfl rfl ?_
  refine gj_iload_n C (pc' := 25) (i := 1) rfl dX10_named_24 rfl rfl ?_
  refine gj_aload_n C (pc' := 26) (i := 0) rfl dX10_named_25 rfl rfl ?_
  refine gj_getI C (pc' := 29) rfl dX10_named_26 wf_X10_93 h (fun v1 h => ?_)
  refine gj_if_ne C (pc' := 32) (tgt := 37) rfl dX10_named_29 rfl h (fun h => ?_) (fun h => ?_)
  · refine gj_bipush C (pc' := 34) (v := 104) rfl dX10_named_32 (by decide) ?_
    refine gj_goto C (tgt := 39) dX10_named_34 rfl ?_
    refine gj_drop (lv' := [some _, some _, some _, none, none]) (And.intro rfl (And.intro rfl (And.intro rfl True.intro))) ?_
    exact kX10_named_39 C h
  · refine gj_bipush C (pc' := 39) (v := 102) rfl dX10_named_37 (by decide) ?_
    refine gj_drop (lv' := [some _, some _, some _, none, none]) (And.intro rfl (And.intro rfl (And.intro rfl True.intro))) ?_
    exact kX10_named_39 C h
set_option maxHeartbeats 4000000 in
set_option maxRecDepth 100000 in
theorem kX10_named_15 {p : Program} {l : Launch} {e : Env} {s : State} {m : MethodId} {args : Array Value} {below : List Frame} {meth : Method} {c : Code} {D : va_G} {ad : Nat → Nat} {tc : Nat → ClassId} {A : Nat → Prop} (C : gj_C p s m args meth c D ad tc A cX10_named 5 (some .int) RX10) {r : Int32} {w1 : ab_W} {x0 : Nat} {x1 : Int32} {p0 : Int32} {p1 : Int32} {w : ab_W} (h : sX10_named_15 x0 x1 p0 p1 w = some (r, w1)) : gj_G p l e (gj_R 1) s m args below meth c D ad tc A 5 (gj_Qi D ad tc A below args s r w1) 15 [some (.ref x0), some (.int x1), none, none, none] [.int p1, .int p0] w := by
  unfold sX10_named_15 at h
  refine gj_icmp_ne C (pc' := 18) (tgt := 22) rfl dX10_named_15 rfl h (fun h => ?_) (fun h => ?_)
  · refine gj_iconst C (pc' := 19) (v := 1) rfl dX10_named_18 (by decide) ?_
    refine gj_goto C (tgt := 23) dX10_named_19 rfl ?_
    refine gj_drop (lv' := [some _, some _, none, none, none]) (And.intro rfl (And.intro rfl True.intro)) ?_
    exact kX10_named_23 C h
  · refine gj_iconst C (pc' := 23) (v := 0) rfl dX10_named_22 (by decide) ?_
    refine gj_drop (lv' := [some _, some _, none, none, none]) (And.intro rfl (And.intro rfl True.intro)) ?_
    exact kX10_named_23 C h
set_option maxHeartbeats 4000000 in
set_option maxRecDepth 100000 in
theorem kX10_named : ∀ (x0 : Nat) (x1 : Int32) (w : ab_W) (r : Int32) (w1 : ab_W), sX10_named x0 x1 w = some (r, w1) → gj_Mi yX10_named cX10_named 5 (some .int) 1 [.ref x0, .int x1] w r w1 ∧ ab_is w 10 x0 = true := by
  intro x0 x1 w r w1 h
  unfold sX10_named at h
  obtain ⟨hi, h⟩ := ab_ite h
  refine ⟨?_, hi⟩
  refine gj_Mi_of RX10 [some (.ref x0), some (.int x1), none, none, none] (by decide +kernel) rfl (Nat.le_of_ble_eq_true rfl) rfl (fun p l e s m args below meth c D ad tc A C => ?_)
  refine gj_iload_n C (pc' := 1) (i := 1) rfl dX10_named_0 rfl rfl ?_
  refine gj_aload_n C (pc' := 2) (i := 0) rfl dX10_named_1 rfl rfl ?_
  refine gj_getI C (pc' := 5) rfl dX10_named_2 wf_X10_93 h (fun v1 h => ?_)
  refine gj_if_ne C (pc' := 8) (tgt := 13) rfl dX10_named_5 rfl h (fun h => ?_) (fun h => ?_)
  · refine gj_bipush C (pc' := 10) (v := 119) rfl dX10_named_8 (by decide) ?_
    refine gj_goto C (tgt := 15) dX10_named_10 rfl ?_
    refine gj_drop (lv' := [some _, some _, none, none, none]) (And.intro rfl (And.intro rfl True.intro)) ?_
    exact kX10_named_15 C h
  · refine gj_bipush C (pc' := 15) (v := 111) rfl dX10_named_13 (by decide) ?_
    refine gj_drop (lv' := [some _, some _, none, none, none]) (And.intro rfl (And.intro rfl True.intro)) ?_
    exact kX10_named_15 C h
set_option maxHeartbeats 4000000 in
set_option maxRecDepth 100000 in
theorem kX10_factor_148 {p : Program} {l : Launch} {e : Env} {s : State} {m : MethodId} {args : Array Value} {below : List Frame} {meth : Method} {c : Code} {D : va_G} {ad : Nat → Nat} {tc : Nat → ClassId} {A : Nat → Prop} (C : gj_C p s m args meth c D ad tc A cX10_factor 3 (some .int) RX10) {n0 : Nat} {r : Int32} {w1 : ab_W} {f_X10_factor : Nat → ab_W → Option (Int32 × ab_W)} {f_X10_whole : Nat → ab_W → Option (Int32 × ab_W)} (hf_X10_factor : ∀ (x0 : Nat) (w : ab_W) (r : Int32) (w1 : ab_W), f_X10_factor x0 w = some (r, w1) → gj_Mi yX10_factor cX10_factor 3 (some .int) (3 + n0) [.ref x0] w r w1 ∧ ab_is w 10 x0 = true) (hf_X10_whole : ∀ (x0 : Nat) (w : ab_W) (r : Int32) (w1 : ab_W), f_X10_whole x0 w = some (r, w1) → gj_Mi yX10_whole cX10_whole 3 (some .int) (3 + n0) [.ref x0] w r w1 ∧ ab_is w 10 x0 = true) {x0 : Nat} {w : ab_W} (h : sX10_factor_148 f_X10_factor f_X10_whole x0 w = some (r, w1)) : gj_G p l e (gj_R (3 + n0 + 1)) s m args below meth c D ad tc A 3 (gj_Qi D ad tc A below args s r w1) 148 [some (.ref x0), none, none] [] w := by
  unfold sX10_factor_148 at h
  refine gj_aload_n C (pc' := 149) (i := 0) rfl dX10_factor_148 rfl rfl ?_
  refine gj_callVi C (pc' := 152) rfl dX10_factor_149 wm_X10_109 uX10_fails h (kX10_fails _ _) (by omega) rfl rfl (Nat.le_of_ble_eq_true rfl) (fun v1 w2 h => ?_)
  exact gj_iret C dX10_factor_152 h
set_option maxHeartbeats 4000000 in
set_option maxRecDepth 100000 in
theorem kX10_factor_89 {p : Program} {l : Launch} {e : Env} {s : State} {m : MethodId} {args : Array Value} {below : List Frame} {meth : Method} {c : Code} {D : va_G} {ad : Nat → Nat} {tc : Nat → ClassId} {A : Nat → Prop} (C : gj_C p s m args meth c D ad tc A cX10_factor 3 (some .int) RX10) {n0 : Nat} {r : Int32} {w1 : ab_W} {f_X10_factor : Nat → ab_W → Option (Int32 × ab_W)} {f_X10_whole : Nat → ab_W → Option (Int32 × ab_W)} (hf_X10_factor : ∀ (x0 : Nat) (w : ab_W) (r : Int32) (w1 : ab_W), f_X10_factor x0 w = some (r, w1) → gj_Mi yX10_factor cX10_factor 3 (some .int) (3 + n0) [.ref x0] w r w1 ∧ ab_is w 10 x0 = true) (hf_X10_whole : ∀ (x0 : Nat) (w : ab_W) (r : Int32) (w1 : ab_W), f_X10_whole x0 w = some (r, w1) → gj_Mi yX10_whole cX10_whole 3 (some .int) (3 + n0) [.ref x0] w r w1 ∧ ab_is w 10 x0 = true) {x0 : Nat} {x1 : Int32} {p0 : Int32} {w : ab_W} (h : sX10_factor_89 f_X10_factor f_X10_whole x0 x1 p0 w = some (r, w1)) : gj_G p l e (gj_R (3 + n0 + 1)) s m args below meth c D ad tc A 3 (gj_Qi D ad tc A below args s r w1) 89 [some (.ref x0), some (.int x1), none] [.int p0] w := by
  unfold sX10_factor_89 at h
  refine gj_istore_n C (pc' := 90) (i := 2) (lv' := [_, _, _]) rfl dX10_factor_89 rfl (by decide) rfl rfl ?_
  refine gj_aload_n C (pc' := 91) (i := 0) rfl dX10_factor_90 rfl rfl ?_
  refine gj_dup C (pc' := 92) rfl dX10_factor_91 rfl ?_
  refine gj_getI C (pc' := 95) rfl dX10_factor_92 wf_X10_128 h (fun v1 h => ?_)
  refine gj_iconst C (pc' := 96) (v := 1) rfl dX10_factor_95 (by decide) ?_
  refine gj_isub C (pc' := 97) rfl dX10_factor_96 ?_
  refine gj_putI C (pc' := 100) (ty := .int) rfl dX10_factor_97 wf_X10_128 wp_X10_10 rfl h (fun w2 h => ?_)
  refine gj_iload_n C (pc' := 101) (i := 1) rfl dX10_factor_100 rfl rfl ?_
  refine gj_bipush C (pc' := 103) (v := 33) rfl dX10_factor_101 (by decide) ?_
  refine gj_icmp_ne C (pc' := 106) (tgt := 116) rfl dX10_factor_103 rfl h (fun h => ?_) (fun h => ?_)
  · refine gj_iload_n C (pc' := 107) (i := 2) rfl dX10_factor_106 rfl rfl ?_
    refine gj_if_ne C (pc' := 110) (tgt := 114) rfl dX10_factor_107 rfl h (fun h => ?_) (fun h => ?_)
    · refine gj_iconst C (pc' := 111) (v := 1) rfl dX10_factor_110 (by decide) ?_
      refine gj_goto C (tgt := 115) dX10_factor_111 rfl ?_
      exact gj_iret C dX10_factor_115 h
    · refine gj_iconst C (pc' := 115) (v := 0) rfl dX10_factor_114 (by decide) ?_
      exact gj_iret C dX10_factor_115 h
  · refine gj_aload_n C (pc' := 117) (i := 0) rfl dX10_factor_116 rfl rfl ?_
    refine gj_getI C (pc' := 120) rfl dX10_factor_117 wf_X10_96 h (fun v3 h => ?_)
    refine gj_if_eq C (pc' := 123) (tgt := 148) rfl dX10_factor_120 rfl h (fun h => ?_) (fun h => ?_)
    · refine gj_drop (lv' := [some _, none, none]) (And.intro rfl True.intro) ?_
      exact kX10_factor_148 C hf_X10_factor hf_X10_whole h
    · refine gj_aload_n C (pc' := 124) (i := 0) rfl dX10_factor_123 rfl rfl ?_
      refine gj_aload_n C (pc' := 125) (i := 0) rfl dX10_factor_124 rfl rfl ?_
      refine gj_getI C (pc' := 128) rfl dX10_factor_125 wf_X10_100 h (fun v4 h => ?_)
      refine gj_callVi C (pc' := 131) rfl dX10_factor_128 wm_X10_103 uX10_byteAt h (kX10_byteAt _ _ _) (by omega) rfl rfl (Nat.le_of_ble_eq_true rfl) (fun v5 w6 h => ?_)
      refine gj_bipush C (pc' := 133) (v := 41) rfl dX10_factor_131 (by decide) ?_
      refine gj_icmp_ne C (pc' := 136) (tgt := 148) rfl dX10_factor_133 rfl h (fun h => ?_) (fun h => ?_)
      · refine gj_aload_n C (pc' := 137) (i := 0) rfl dX10_factor_136 rfl rfl ?_
        refine gj_dup C (pc' := 138) rfl dX10_factor_137 rfl ?_
        refine gj_getI C (pc' := 141) rfl dX10_factor_138 wf_X10_100 h (fun v7 h => ?_)
        refine gj_iconst C (pc' := 142) (v := 1) rfl dX10_factor_141 (by decide) ?_
        refine gj_iadd C (pc' := 143) rfl dX10_factor_142 ?_
        refine gj_putI C (pc' := 146) (ty := .int) rfl dX10_factor_143 wf_X10_100 wp_X10_8 rfl h (fun w8 h => ?_)
        refine gj_iload_n C (pc' := 147) (i := 2) rfl dX10_factor_146 rfl rfl ?_
        exact gj_iret C dX10_factor_147 h
      · refine gj_drop (lv' := [some _, none, none]) (And.intro rfl True.intro) ?_
        exact kX10_factor_148 C hf_X10_factor hf_X10_whole h
set_option maxHeartbeats 4000000 in
set_option maxRecDepth 100000 in
theorem kX10_factor_39 {p : Program} {l : Launch} {e : Env} {s : State} {m : MethodId} {args : Array Value} {below : List Frame} {meth : Method} {c : Code} {D : va_G} {ad : Nat → Nat} {tc : Nat → ClassId} {A : Nat → Prop} (C : gj_C p s m args meth c D ad tc A cX10_factor 3 (some .int) RX10) {n0 : Nat} {r : Int32} {w1 : ab_W} {f_X10_factor : Nat → ab_W → Option (Int32 × ab_W)} {f_X10_whole : Nat → ab_W → Option (Int32 × ab_W)} (hf_X10_factor : ∀ (x0 : Nat) (w : ab_W) (r : Int32) (w1 : ab_W), f_X10_factor x0 w = some (r, w1) → gj_Mi yX10_factor cX10_factor 3 (some .int) (3 + n0) [.ref x0] w r w1 ∧ ab_is w 10 x0 = true) (hf_X10_whole : ∀ (x0 : Nat) (w : ab_W) (r : Int32) (w1 : ab_W), f_X10_whole x0 w = some (r, w1) → gj_Mi yX10_whole cX10_whole 3 (some .int) (3 + n0) [.ref x0] w r w1 ∧ ab_is w 10 x0 = true) {x0 : Nat} {x1 : Int32} {w : ab_W} (h : sX10_factor_39 f_X10_factor f_X10_whole x0 x1 w = some (r, w1)) : gj_G p l e (gj_R (3 + n0 + 1)) s m args below meth c D ad tc A 3 (gj_Qi D ad tc A below args s r w1) 39 [some (.ref x0), some (.int x1), none] [] w := by
  unfold sX10_factor_39 at h
  refine gj_aload_n C (pc' := 40) (i := 0) rfl dX10_factor_39 rfl rfl ?_
  refine gj_getI C (pc' := 43) rfl dX10_factor_40 wf_X10_128 h (fun v1 h => ?_)
  refine gj_iconst C (pc' := 44) (v := 5) rfl dX10_factor_43 (by decide) ?_
  refine gj_icmp_ne C (pc' := 47) (tgt := 52) rfl dX10_factor_44 rfl h (fun h => ?_) (fun h => ?_)
  · refine gj_aload_n C (pc' := 48) (i := 0) rfl dX10_factor_47 rfl rfl ?_
    refine gj_callVi C (pc' := 51) rfl dX10_factor_48 wm_X10_109 uX10_fails h (kX10_fails _ _) (by omega) rfl rfl (Nat.le_of_ble_eq_true rfl) (fun v2 w3 h => ?_)
    exact gj_iret C dX10_factor_51 h
  · refine gj_aload_n C (pc' := 53) (i := 0) rfl dX10_factor_52 rfl rfl ?_
    refine gj_dup C (pc' := 54) rfl dX10_factor_53 rfl ?_
    refine gj_getI C (pc' := 57) rfl dX10_factor_54 wf_X10_128 h (fun v4 h => ?_)
    refine gj_iconst C (pc' := 58) (v := 1) rfl dX10_factor_57 (by decide) ?_
    refine gj_iadd C (pc' := 59) rfl dX10_factor_58 ?_
    refine gj_putI C (pc' := 62) (ty := .int) rfl dX10_factor_59 wf_X10_128 wp_X10_10 rfl h (fun w5 h => ?_)
    refine gj_aload_n C (pc' := 63) (i := 0) rfl dX10_factor_62 rfl rfl ?_
    refine gj_dup C (pc' := 64) rfl dX10_factor_63 rfl ?_
    refine gj_getI C (pc' := 67) rfl dX10_factor_64 wf_X10_100 h (fun v6 h => ?_)
    refine gj_iconst C (pc' := 68) (v := 1) rfl dX10_factor_67 (by decide) ?_
    refine gj_iadd C (pc' := 69) rfl dX10_factor_68 ?_
    refine gj_putI C (pc' := 72) (ty := .int) rfl dX10_factor_69 wf_X10_100 wp_X10_8 rfl h (fun w7 h => ?_)
    refine gj_iload_n C (pc' := 73) (i := 1) rfl dX10_factor_72 rfl rfl ?_
    refine gj_bipush C (pc' := 75) (v := 33) rfl dX10_factor_73 (by decide) ?_
    refine gj_icmp_ne C (pc' := 78) (tgt := 85) rfl dX10_factor_75 rfl h (fun h => ?_) (fun h => ?_)
    · refine gj_aload_n C (pc' := 79) (i := 0) rfl dX10_factor_78 rfl rfl ?_
      refine gj_callVi C (pc' := 82) rfl dX10_factor_79 wm_X10_131 uX10_factor h (hf_X10_factor _ _) (by omega) rfl rfl (Nat.le_of_ble_eq_true rfl) (fun v8 w9 h => ?_)
      refine gj_goto C (tgt := 89) dX10_factor_82 rfl ?_
      refine gj_drop (lv' := [some _, some _, none]) (And.intro rfl (And.intro rfl True.intro)) ?_
      exact kX10_factor_89 C hf_X10_factor hf_X10_whole h
    · refine gj_aload_n C (pc' := 86) (i := 0) rfl dX10_factor_85 rfl rfl ?_
      refine gj_callVi C (pc' := 89) rfl dX10_factor_86 wm_X10_134 uX10_whole h (hf_X10_whole _ _) (by omega) rfl rfl (Nat.le_of_ble_eq_true rfl) (fun v10 w11 h => ?_)
      refine gj_drop (lv' := [some _, some _, none]) (And.intro rfl (And.intro rfl True.intro)) ?_
      exact kX10_factor_89 C hf_X10_factor hf_X10_whole h
set_option maxHeartbeats 4000000 in
set_option maxRecDepth 100000 in
theorem kbX10_factor {n0 : Nat} {f_X10_factor : Nat → ab_W → Option (Int32 × ab_W)} {f_X10_whole : Nat → ab_W → Option (Int32 × ab_W)} (hf_X10_factor : ∀ (x0 : Nat) (w : ab_W) (r : Int32) (w1 : ab_W), f_X10_factor x0 w = some (r, w1) → gj_Mi yX10_factor cX10_factor 3 (some .int) (3 + n0) [.ref x0] w r w1 ∧ ab_is w 10 x0 = true) (hf_X10_whole : ∀ (x0 : Nat) (w : ab_W) (r : Int32) (w1 : ab_W), f_X10_whole x0 w = some (r, w1) → gj_Mi yX10_whole cX10_whole 3 (some .int) (3 + n0) [.ref x0] w r w1 ∧ ab_is w 10 x0 = true) : ∀ (x0 : Nat) (w : ab_W) (r : Int32) (w1 : ab_W), bX10_factor f_X10_factor f_X10_whole x0 w = some (r, w1) → gj_Mi yX10_factor cX10_factor 3 (some .int) (3 + n0 + 1) [.ref x0] w r w1 ∧ ab_is w 10 x0 = true := by
  intro x0 w r w1 h
  unfold bX10_factor at h
  obtain ⟨hi, h⟩ := ab_ite h
  refine ⟨?_, hi⟩
  refine gj_Mi_of RX10 [some (.ref x0), none, none] (by decide +kernel) rfl (Nat.le_of_ble_eq_true rfl) rfl (fun p l e s m args below meth c D ad tc A C => ?_)
  refine gj_aload_n C (pc' := 1) (i := 0) rfl dX10_factor_0 rfl rfl ?_
  refine gj_aload_n C (pc' := 2) (i := 0) rfl dX10_factor_1 rfl rfl ?_
  refine gj_getI C (pc' := 5) rfl dX10_factor_2 wf_X10_100 h (fun v1 h => ?_)
  refine gj_callVi C (pc' := 8) rfl dX10_factor_5 wm_X10_103 uX10_byteAt h (kX10_byteAt _ _ _) (by omega) rfl rfl (Nat.le_of_ble_eq_true rfl) (fun v2 w3 h => ?_)
  refine gj_istore_n C (pc' := 9) (i := 1) (lv' := [_, _, _]) rfl dX10_factor_8 rfl (by decide) rfl rfl ?_
  refine gj_iload_n C (pc' := 10) (i := 1) rfl dX10_factor_9 rfl rfl ?_
  refine gj_callSi C (pc' := 13) rfl dX10_factor_10 wm_X10_106 uX10_isDigit h (kX10_isDigit _ _) (by omega) rfl rfl (Nat.le_of_ble_eq_true rfl) (fun v4 w5 h => ?_)
  refine gj_if_eq C (pc' := 16) (tgt := 21) rfl dX10_factor_13 rfl h (fun h => ?_) (fun h => ?_)
  · refine gj_iload_n C (pc' := 22) (i := 1) rfl dX10_factor_21 rfl rfl ?_
    refine gj_bipush C (pc' := 24) (v := 33) rfl dX10_factor_22 (by decide) ?_
    refine gj_icmp_eq C (pc' := 27) (tgt := 39) rfl dX10_factor_24 rfl h (fun h => ?_) (fun h => ?_)
    · refine gj_drop (lv' := [some _, some _, none]) (And.intro rfl (And.intro rfl True.intro)) ?_
      exact kX10_factor_39 C hf_X10_factor hf_X10_whole h
    · refine gj_iload_n C (pc' := 28) (i := 1) rfl dX10_factor_27 rfl rfl ?_
      refine gj_bipush C (pc' := 30) (v := 40) rfl dX10_factor_28 (by decide) ?_
      refine gj_icmp_eq C (pc' := 33) (tgt := 39) rfl dX10_factor_30 rfl h (fun h => ?_) (fun h => ?_)
      · refine gj_drop (lv' := [some _, some _, none]) (And.intro rfl (And.intro rfl True.intro)) ?_
        exact kX10_factor_39 C hf_X10_factor hf_X10_whole h
      · refine gj_aload_n C (pc' := 34) (i := 0) rfl dX10_factor_33 rfl rfl ?_
        refine gj_iload_n C (pc' := 35) (i := 1) rfl dX10_factor_34 rfl rfl ?_
        refine gj_callVi C (pc' := 38) rfl dX10_factor_35 wm_X10_125 uX10_named h (kX10_named _ _ _) (by omega) rfl rfl (Nat.le_of_ble_eq_true rfl) (fun v6 w7 h => ?_)
        exact gj_iret C dX10_factor_38 h
  · refine gj_aload_n C (pc' := 17) (i := 0) rfl dX10_factor_16 rfl rfl ?_
    refine gj_callVi C (pc' := 20) rfl dX10_factor_17 wm_X10_122 uX10_number h (kX10_number _ _) (by omega) rfl rfl (Nat.le_of_ble_eq_true rfl) (fun v8 w9 h => ?_)
    exact gj_iret C dX10_factor_20 h
set_option maxHeartbeats 4000000 in
set_option maxRecDepth 100000 in
theorem kX10_product_110 {p : Program} {l : Launch} {e : Env} {s : State} {m : MethodId} {args : Array Value} {below : List Frame} {meth : Method} {c : Code} {D : va_G} {ad : Nat → Nat} {tc : Nat → ClassId} {A : Nat → Prop} (C : gj_C p s m args meth c D ad tc A cX10_product 4 (some .int) RX10) {n0 : Nat} {r : Int32} {w1 : ab_W} {f_X10_factor : Nat → ab_W → Option (Int32 × ab_W)} {k5 : Nat → Int32 → ab_W → Option (Int32 × ab_W)} (hf_X10_factor : ∀ (x0 : Nat) (w : ab_W) (r : Int32) (w1 : ab_W), f_X10_factor x0 w = some (r, w1) → gj_Mi yX10_factor cX10_factor 3 (some .int) (3 + n0) [.ref x0] w r w1 ∧ ab_is w 10 x0 = true) (hk5 : ∀ {x0 : Nat} {x1 : Int32} {w : ab_W}, k5 x0 x1 w = some (r, w1) → gj_G p l e (gj_R (3 + n0 + 1)) s m args below meth c D ad tc A 4 (gj_Qi D ad tc A below args s r w1) 5 [some (.ref x0), some (.int x1), none, none] [] w) {x0 : Nat} {p0 : Int32} {w : ab_W} (h : sX10_product_110 f_X10_factor k5 x0 p0 w = some (r, w1)) : gj_G p l e (gj_R (3 + n0 + 1)) s m args below meth c D ad tc A 4 (gj_Qi D ad tc A below args s r w1) 110 [some (.ref x0), none, none, none] [.int p0] w := by
  unfold sX10_product_110 at h
  refine gj_istore_n C (pc' := 111) (i := 1) (lv' := [_, _, _, _]) rfl dX10_product_110 rfl (by decide) rfl rfl ?_
  refine gj_goto C (tgt := 5) dX10_product_111 rfl ?_
  refine gj_drop (lv' := [some _, some _, none, none]) (And.intro rfl (And.intro rfl True.intro)) ?_
  exact hk5 h
set_option maxHeartbeats 4000000 in
set_option maxRecDepth 100000 in
theorem kX10_product_51 {p : Program} {l : Launch} {e : Env} {s : State} {m : MethodId} {args : Array Value} {below : List Frame} {meth : Method} {c : Code} {D : va_G} {ad : Nat → Nat} {tc : Nat → ClassId} {A : Nat → Prop} (C : gj_C p s m args meth c D ad tc A cX10_product 4 (some .int) RX10) {n0 : Nat} {r : Int32} {w1 : ab_W} {f_X10_factor : Nat → ab_W → Option (Int32 × ab_W)} {k5 : Nat → Int32 → ab_W → Option (Int32 × ab_W)} (hf_X10_factor : ∀ (x0 : Nat) (w : ab_W) (r : Int32) (w1 : ab_W), f_X10_factor x0 w = some (r, w1) → gj_Mi yX10_factor cX10_factor 3 (some .int) (3 + n0) [.ref x0] w r w1 ∧ ab_is w 10 x0 = true) (hk5 : ∀ {x0 : Nat} {x1 : Int32} {w : ab_W}, k5 x0 x1 w = some (r, w1) → gj_G p l e (gj_R (3 + n0 + 1)) s m args below meth c D ad tc A 4 (gj_Qi D ad tc A below args s r w1) 5 [some (.ref x0), some (.int x1), none, none] [] w) {x0 : Nat} {x1 : Int32} {w : ab_W} (h : sX10_product_51 f_X10_factor k5 x0 x1 w = some (r, w1)) : gj_G p l e (gj_R (3 + n0 + 1)) s m args below meth c D ad tc A 4 (gj_Qi D ad tc A below args s r w1) 51 [some (.ref x0), some (.int x1), none, none] [] w := by
  unfold sX10_product_51 at h
  refine gj_aload_n C (pc' := 52) (i := 0) rfl dX10_product_51 rfl rfl ?_
  refine gj_aload_n C (pc' := 53) (i := 0) rfl dX10_product_52 rfl rfl ?_
  refine gj_getI C (pc' := 56) rfl dX10_product_53 wf_X10_100 h (fun v1 h => ?_)
  refine gj_callVi C (pc' := 59) rfl dX10_product_56 wm_X10_103 uX10_byteAt h (kX10_byteAt _ _ _) (by omega) rfl rfl (Nat.le_of_ble_eq_true rfl) (fun v2 w3 h => ?_)
  refine gj_istore_n C (pc' := 60) (i := 2) (lv' := [_, _, _, _]) rfl dX10_product_59 rfl (by decide) rfl rfl ?_
  refine gj_aload_n C (pc' := 61) (i := 0) rfl dX10_product_60 rfl rfl ?_
  refine gj_dup C (pc' := 62) rfl dX10_product_61 rfl ?_
  refine gj_getI C (pc' := 65) rfl dX10_product_62 wf_X10_100 h (fun v4 h => ?_)
  refine gj_iconst C (pc' := 66) (v := 1) rfl dX10_product_65 (by decide) ?_
  refine gj_iadd C (pc' := 67) rfl dX10_product_66 ?_
  refine gj_putI C (pc' := 70) (ty := .int) rfl dX10_product_67 wf_X10_100 wp_X10_8 rfl h (fun w5 h => ?_)
  refine gj_aload_n C (pc' := 71) (i := 0) rfl dX10_product_70 rfl rfl ?_
  refine gj_callVi C (pc' := 74) rfl dX10_product_71 wm_X10_131 uX10_factor h (hf_X10_factor _ _) (by omega) rfl rfl (Nat.le_of_ble_eq_true rfl) (fun v6 w7 h => ?_)
  refine gj_istore_n C (pc' := 75) (i := 3) (lv' := [_, _, _, _]) rfl dX10_product_74 rfl (by decide) rfl rfl ?_
  refine gj_iload_n C (pc' := 76) (i := 2) rfl dX10_product_75 rfl rfl ?_
  refine gj_bipush C (pc' := 78) (v := 42) rfl dX10_product_76 (by decide) ?_
  refine gj_icmp_ne C (pc' := 81) (tgt := 87) rfl dX10_product_78 rfl h (fun h => ?_) (fun h => ?_)
  · refine gj_iload_n C (pc' := 82) (i := 1) rfl dX10_product_81 rfl rfl ?_
    refine gj_iload_n C (pc' := 83) (i := 3) rfl dX10_product_82 rfl rfl ?_
    refine gj_imul C (pc' := 84) rfl dX10_product_83 ?_
    refine gj_goto C (tgt := 110) dX10_product_84 rfl ?_
    refine gj_drop (lv' := [some _, none, none, none]) (And.intro rfl True.intro) ?_
    exact kX10_product_110 C hf_X10_factor (fun h => hk5 h) h
  · refine gj_iload_n C (pc' := 88) (i := 3) rfl dX10_product_87 rfl rfl ?_
    refine gj_if_ne C (pc' := 91) (tgt := 95) rfl dX10_product_88 rfl h (fun h => ?_) (fun h => ?_)
    · refine gj_iconst C (pc' := 92) (v := 0) rfl dX10_product_91 (by decide) ?_
      refine gj_goto C (tgt := 110) dX10_product_92 rfl ?_
      refine gj_drop (lv' := [some _, none, none, none]) (And.intro rfl True.intro) ?_
      exact kX10_product_110 C hf_X10_factor (fun h => hk5 h) h
    · refine gj_iload_n C (pc' := 96) (i := 2) rfl dX10_product_95 rfl rfl ?_
      refine gj_bipush C (pc' := 98) (v := 47) rfl dX10_product_96 (by decide) ?_
      refine gj_icmp_ne C (pc' := 101) (tgt := 107) rfl dX10_product_98 rfl h (fun h => ?_) (fun h => ?_)
      · refine gj_iload_n C (pc' := 102) (i := 1) rfl dX10_product_101 rfl rfl ?_
        refine gj_iload_n C (pc' := 103) (i := 3) rfl dX10_product_102 rfl rfl ?_
        refine gj_idiv C (pc' := 104) rfl dX10_product_103 h (fun v8 h => ?_)
        refine gj_goto C (tgt := 110) dX10_product_104 rfl ?_
        refine gj_drop (lv' := [some _, none, none, none]) (And.intro rfl True.intro) ?_
        exact kX10_product_110 C hf_X10_factor (fun h => hk5 h) h
      · refine gj_iload_n C (pc' := 108) (i := 1) rfl dX10_product_107 rfl rfl ?_
        refine gj_iload_n C (pc' := 109) (i := 3) rfl dX10_product_108 rfl rfl ?_
        refine gj_irem C (pc' := 110) rfl dX10_product_109 h (fun v9 h => ?_)
        refine gj_drop (lv' := [some _, none, none, none]) (And.intro rfl True.intro) ?_
        exact kX10_product_110 C hf_X10_factor (fun h => hk5 h) h
set_option maxHeartbeats 4000000 in
set_option maxRecDepth 100000 in
theorem kX10_product_5 {p : Program} {l : Launch} {e : Env} {s : State} {m : MethodId} {args : Array Value} {below : List Frame} {meth : Method} {c : Code} {D : va_G} {ad : Nat → Nat} {tc : Nat → ClassId} {A : Nat → Prop} (C : gj_C p s m args meth c D ad tc A cX10_product 4 (some .int) RX10) {n0 : Nat} {r : Int32} {w1 : ab_W} {f_X10_factor : Nat → ab_W → Option (Int32 × ab_W)} (hf_X10_factor : ∀ (x0 : Nat) (w : ab_W) (r : Int32) (w1 : ab_W), f_X10_factor x0 w = some (r, w1) → gj_Mi yX10_factor cX10_factor 3 (some .int) (3 + n0) [.ref x0] w r w1 ∧ ab_is w 10 x0 = true) : ∀ {n : Nat} {x0 : Nat} {x1 : Int32} {w : ab_W}, sX10_product_5 f_X10_factor n x0 x1 w = some (r, w1) → gj_G p l e (gj_R (3 + n0 + 1)) s m args below meth c D ad tc A 4 (gj_Qi D ad tc A below args s r w1) 5 [some (.ref x0), some (.int x1), none, none] [] w := by
  intro n
  induction n with
  | zero =>
    intros
    rename_i h
    cases h
  | succ n ih =>
    intro x0 x1 w h
    rw [sX10_product_5] at h
    refine gj_aload_n C (pc' := 6) (i := 0) rfl dX10_product_5 rfl rfl ?_
    refine gj_getI C (pc' := 9) rfl dX10_product_6 wf_X10_96 h (fun v1 h => ?_)
    refine gj_if_eq C (pc' := 12) (tgt := 114) rfl dX10_product_9 rfl h (fun h => ?_) (fun h => ?_)
    · refine gj_iload_n C (pc' := 115) (i := 1) rfl dX10_product_114 rfl rfl ?_
      exact gj_iret C dX10_product_115 h
    · refine gj_aload_n C (pc' := 13) (i := 0) rfl dX10_product_12 rfl rfl ?_
      refine gj_aload_n C (pc' := 14) (i := 0) rfl dX10_product_13 rfl rfl ?_
      refine gj_getI C (pc' := 17) rfl dX10_product_14 wf_X10_100 h (fun v2 h => ?_)
      refine gj_callVi C (pc' := 20) rfl dX10_product_17 wm_X10_103 uX10_byteAt h (kX10_byteAt _ _ _) (by omega) rfl rfl (Nat.le_of_ble_eq_true rfl) (fun v3 w4 h => ?_)
      refine gj_bipush C (pc' := 22) (v := 42) rfl dX10_product_20 (by decide) ?_
      refine gj_icmp_eq C (pc' := 25) (tgt := 51) rfl dX10_product_22 rfl h (fun h => ?_) (fun h => ?_)
      · refine gj_drop (lv' := [some _, some _, none, none]) (And.intro rfl (And.intro rfl True.intro)) ?_
        exact kX10_product_51 C hf_X10_factor (fun h => ih h) h
      · refine gj_aload_n C (pc' := 26) (i := 0) rfl dX10_product_25 rfl rfl ?_
        refine gj_aload_n C (pc' := 27) (i := 0) rfl dX10_product_26 rfl rfl ?_
        refine gj_getI C (pc' := 30) rfl dX10_product_27 wf_X10_100 h (fun v5 h => ?_)
        refine gj_callVi C (pc' := 33) rfl dX10_product_30 wm_X10_103 uX10_byteAt h (kX10_byteAt _ _ _) (by omega) rfl rfl (Nat.le_of_ble_eq_true rfl) (fun v6 w7 h => ?_)
        refine gj_bipush C (pc' := 35) (v := 47) rfl dX10_product_33 (by decide) ?_
        refine gj_icmp_eq C (pc' := 38) (tgt := 51) rfl dX10_product_35 rfl h (fun h => ?_) (fun h => ?_)
        · refine gj_drop (lv' := [some _, some _, none, none]) (And.intro rfl (And.intro rfl True.intro)) ?_
          exact kX10_product_51 C hf_X10_factor (fun h => ih h) h
        · refine gj_aload_n C (pc' := 39) (i := 0) rfl dX10_product_38 rfl rfl ?_
          refine gj_aload_n C (pc' := 40) (i := 0) rfl dX10_product_39 rfl rfl ?_
          refine gj_getI C (pc' := 43) rfl dX10_product_40 wf_X10_100 h (fun v8 h => ?_)
          refine gj_callVi C (pc' := 46) rfl dX10_product_43 wm_X10_103 uX10_byteAt h (kX10_byteAt _ _ _) (by omega) rfl rfl (Nat.le_of_ble_eq_true rfl) (fun v9 w10 h => ?_)
          refine gj_bipush C (pc' := 48) (v := 37) rfl dX10_product_46 (by decide) ?_
          refine gj_icmp_ne C (pc' := 51) (tgt := 114) rfl dX10_product_48 rfl h (fun h => ?_) (fun h => ?_)
          · refine gj_drop (lv' := [some _, some _, none, none]) (And.intro rfl (And.intro rfl True.intro)) ?_
            exact kX10_product_51 C hf_X10_factor (fun h => ih h) h
          · refine gj_iload_n C (pc' := 115) (i := 1) rfl dX10_product_114 rfl rfl ?_
            exact gj_iret C dX10_product_115 h
set_option maxHeartbeats 4000000 in
set_option maxRecDepth 100000 in
theorem kbX10_product {n0 : Nat} {f_X10_factor : Nat → ab_W → Option (Int32 × ab_W)} (hf_X10_factor : ∀ (x0 : Nat) (w : ab_W) (r : Int32) (w1 : ab_W), f_X10_factor x0 w = some (r, w1) → gj_Mi yX10_factor cX10_factor 3 (some .int) (3 + n0) [.ref x0] w r w1 ∧ ab_is w 10 x0 = true) : ∀ (x0 : Nat) (w : ab_W) (r : Int32) (w1 : ab_W), bX10_product f_X10_factor x0 w = some (r, w1) → gj_Mi yX10_product cX10_product 4 (some .int) (3 + n0 + 1) [.ref x0] w r w1 ∧ ab_is w 10 x0 = true := by
  intro x0 w r w1 h
  unfold bX10_product at h
  obtain ⟨hi, h⟩ := ab_ite h
  refine ⟨?_, hi⟩
  refine gj_Mi_of RX10 [some (.ref x0), none, none, none] (by decide +kernel) rfl (Nat.le_of_ble_eq_true rfl) rfl (fun p l e s m args below meth c D ad tc A C => ?_)
  refine gj_aload_n C (pc' := 1) (i := 0) rfl dX10_product_0 rfl rfl ?_
  refine gj_callVi C (pc' := 4) rfl dX10_product_1 wm_X10_131 uX10_factor h (hf_X10_factor _ _) (by omega) rfl rfl (Nat.le_of_ble_eq_true rfl) (fun v1 w2 h => ?_)
  refine gj_istore_n C (pc' := 5) (i := 1) (lv' := [_, _, _, _]) rfl dX10_product_4 rfl (by decide) rfl rfl ?_
  refine gj_drop (lv' := [some _, some _, none, none]) (And.intro rfl (And.intro rfl True.intro)) ?_
  exact kX10_product_5 C hf_X10_factor h
set_option maxHeartbeats 4000000 in
set_option maxRecDepth 100000 in
theorem kX10_sum_77 {p : Program} {l : Launch} {e : Env} {s : State} {m : MethodId} {args : Array Value} {below : List Frame} {meth : Method} {c : Code} {D : va_G} {ad : Nat → Nat} {tc : Nat → ClassId} {A : Nat → Prop} (C : gj_C p s m args meth c D ad tc A cX10_sum 4 (some .int) RX10) {n0 : Nat} {r : Int32} {w1 : ab_W} {f_X10_product : Nat → ab_W → Option (Int32 × ab_W)} {k5 : Nat → Int32 → ab_W → Option (Int32 × ab_W)} (hf_X10_product : ∀ (x0 : Nat) (w : ab_W) (r : Int32) (w1 : ab_W), f_X10_product x0 w = some (r, w1) → gj_Mi yX10_product cX10_product 4 (some .int) (3 + n0) [.ref x0] w r w1 ∧ ab_is w 10 x0 = true) (hk5 : ∀ {x0 : Nat} {x1 : Int32} {w : ab_W}, k5 x0 x1 w = some (r, w1) → gj_G p l e (gj_R (3 + n0 + 1)) s m args below meth c D ad tc A 4 (gj_Qi D ad tc A below args s r w1) 5 [some (.ref x0), some (.int x1), none, none] [] w) {x0 : Nat} {p0 : Int32} {w : ab_W} (h : sX10_sum_77 f_X10_product k5 x0 p0 w = some (r, w1)) : gj_G p l e (gj_R (3 + n0 + 1)) s m args below meth c D ad tc A 4 (gj_Qi D ad tc A below args s r w1) 77 [some (.ref x0), none, none, none] [.int p0] w := by
  unfold sX10_sum_77 at h
  refine gj_istore_n C (pc' := 78) (i := 1) (lv' := [_, _, _, _]) rfl dX10_sum_77 rfl (by decide) rfl rfl ?_
  refine gj_goto C (tgt := 5) dX10_sum_78 rfl ?_
  refine gj_drop (lv' := [some _, some _, none, none]) (And.intro rfl (And.intro rfl True.intro)) ?_
  exact hk5 h
set_option maxHeartbeats 4000000 in
set_option maxRecDepth 100000 in
theorem kX10_sum_38 {p : Program} {l : Launch} {e : Env} {s : State} {m : MethodId} {args : Array Value} {below : List Frame} {meth : Method} {c : Code} {D : va_G} {ad : Nat → Nat} {tc : Nat → ClassId} {A : Nat → Prop} (C : gj_C p s m args meth c D ad tc A cX10_sum 4 (some .int) RX10) {n0 : Nat} {r : Int32} {w1 : ab_W} {f_X10_product : Nat → ab_W → Option (Int32 × ab_W)} {k5 : Nat → Int32 → ab_W → Option (Int32 × ab_W)} (hf_X10_product : ∀ (x0 : Nat) (w : ab_W) (r : Int32) (w1 : ab_W), f_X10_product x0 w = some (r, w1) → gj_Mi yX10_product cX10_product 4 (some .int) (3 + n0) [.ref x0] w r w1 ∧ ab_is w 10 x0 = true) (hk5 : ∀ {x0 : Nat} {x1 : Int32} {w : ab_W}, k5 x0 x1 w = some (r, w1) → gj_G p l e (gj_R (3 + n0 + 1)) s m args below meth c D ad tc A 4 (gj_Qi D ad tc A below args s r w1) 5 [some (.ref x0), some (.int x1), none, none] [] w) {x0 : Nat} {x1 : Int32} {w : ab_W} (h : sX10_sum_38 f_X10_product k5 x0 x1 w = some (r, w1)) : gj_G p l e (gj_R (3 + n0 + 1)) s m args below meth c D ad tc A 4 (gj_Qi D ad tc A below args s r w1) 38 [some (.ref x0), some (.int x1), none, none] [] w := by
  unfold sX10_sum_38 at h
  refine gj_aload_n C (pc' := 39) (i := 0) rfl dX10_sum_38 rfl rfl ?_
  refine gj_aload_n C (pc' := 40) (i := 0) rfl dX10_sum_39 rfl rfl ?_
  refine gj_getI C (pc' := 43) rfl dX10_sum_40 wf_X10_100 h (fun v1 h => ?_)
  refine gj_callVi C (pc' := 46) rfl dX10_sum_43 wm_X10_103 uX10_byteAt h (kX10_byteAt _ _ _) (by omega) rfl rfl (Nat.le_of_ble_eq_true rfl) (fun v2 w3 h => ?_)
  refine gj_istore_n C (pc' := 47) (i := 2) (lv' := [_, _, _, _]) rfl dX10_sum_46 rfl (by decide) rfl rfl ?_
  refine gj_aload_n C (pc' := 48) (i := 0) rfl dX10_sum_47 rfl rfl ?_
  refine gj_dup C (pc' := 49) rfl dX10_sum_48 rfl ?_
  refine gj_getI C (pc' := 52) rfl dX10_sum_49 wf_X10_100 h (fun v4 h => ?_)
  refine gj_iconst C (pc' := 53) (v := 1) rfl dX10_sum_52 (by decide) ?_
  refine gj_iadd C (pc' := 54) rfl dX10_sum_53 ?_
  refine gj_putI C (pc' := 57) (ty := .int) rfl dX10_sum_54 wf_X10_100 wp_X10_8 rfl h (fun w5 h => ?_)
  refine gj_aload_n C (pc' := 58) (i := 0) rfl dX10_sum_57 rfl rfl ?_
  refine gj_callVi C (pc' := 61) rfl dX10_sum_58 wm_X10_137 uX10_product h (hf_X10_product _ _) (by omega) rfl rfl (Nat.le_of_ble_eq_true rfl) (fun v6 w7 h => ?_)
  refine gj_istore_n C (pc' := 62) (i := 3) (lv' := [_, _, _, _]) rfl dX10_sum_61 rfl (by decide) rfl rfl ?_
  refine gj_iload_n C (pc' := 63) (i := 2) rfl dX10_sum_62 rfl rfl ?_
  refine gj_bipush C (pc' := 65) (v := 43) rfl dX10_sum_63 (by decide) ?_
  refine gj_icmp_ne C (pc' := 68) (tgt := 74) rfl dX10_sum_65 rfl h (fun h => ?_) (fun h => ?_)
  · refine gj_iload_n C (pc' := 69) (i := 1) rfl dX10_sum_68 rfl rfl ?_
    refine gj_iload_n C (pc' := 70) (i := 3) rfl dX10_sum_69 rfl rfl ?_
    refine gj_iadd C (pc' := 71) rfl dX10_sum_70 ?_
    refine gj_goto C (tgt := 77) dX10_sum_71 rfl ?_
    refine gj_drop (lv' := [some _, none, none, none]) (And.intro rfl True.intro) ?_
    exact kX10_sum_77 C hf_X10_product (fun h => hk5 h) h
  · refine gj_iload_n C (pc' := 75) (i := 1) rfl dX10_sum_74 rfl rfl ?_
    refine gj_iload_n C (pc' := 76) (i := 3) rfl dX10_sum_75 rfl rfl ?_
    refine gj_isub C (pc' := 77) rfl dX10_sum_76 ?_
    refine gj_drop (lv' := [some _, none, none, none]) (And.intro rfl True.intro) ?_
    exact kX10_sum_77 C hf_X10_product (fun h => hk5 h) h
set_option maxHeartbeats 4000000 in
set_option maxRecDepth 100000 in
theorem kX10_sum_5 {p : Program} {l : Launch} {e : Env} {s : State} {m : MethodId} {args : Array Value} {below : List Frame} {meth : Method} {c : Code} {D : va_G} {ad : Nat → Nat} {tc : Nat → ClassId} {A : Nat → Prop} (C : gj_C p s m args meth c D ad tc A cX10_sum 4 (some .int) RX10) {n0 : Nat} {r : Int32} {w1 : ab_W} {f_X10_product : Nat → ab_W → Option (Int32 × ab_W)} (hf_X10_product : ∀ (x0 : Nat) (w : ab_W) (r : Int32) (w1 : ab_W), f_X10_product x0 w = some (r, w1) → gj_Mi yX10_product cX10_product 4 (some .int) (3 + n0) [.ref x0] w r w1 ∧ ab_is w 10 x0 = true) : ∀ {n : Nat} {x0 : Nat} {x1 : Int32} {w : ab_W}, sX10_sum_5 f_X10_product n x0 x1 w = some (r, w1) → gj_G p l e (gj_R (3 + n0 + 1)) s m args below meth c D ad tc A 4 (gj_Qi D ad tc A below args s r w1) 5 [some (.ref x0), some (.int x1), none, none] [] w := by
  intro n
  induction n with
  | zero =>
    intros
    rename_i h
    cases h
  | succ n ih =>
    intro x0 x1 w h
    rw [sX10_sum_5] at h
    refine gj_aload_n C (pc' := 6) (i := 0) rfl dX10_sum_5 rfl rfl ?_
    refine gj_getI C (pc' := 9) rfl dX10_sum_6 wf_X10_96 h (fun v1 h => ?_)
    refine gj_if_eq C (pc' := 12) (tgt := 81) rfl dX10_sum_9 rfl h (fun h => ?_) (fun h => ?_)
    · refine gj_iload_n C (pc' := 82) (i := 1) rfl dX10_sum_81 rfl rfl ?_
      exact gj_iret C dX10_sum_82 h
    · refine gj_aload_n C (pc' := 13) (i := 0) rfl dX10_sum_12 rfl rfl ?_
      refine gj_aload_n C (pc' := 14) (i := 0) rfl dX10_sum_13 rfl rfl ?_
      refine gj_getI C (pc' := 17) rfl dX10_sum_14 wf_X10_100 h (fun v2 h => ?_)
      refine gj_callVi C (pc' := 20) rfl dX10_sum_17 wm_X10_103 uX10_byteAt h (kX10_byteAt _ _ _) (by omega) rfl rfl (Nat.le_of_ble_eq_true rfl) (fun v3 w4 h => ?_)
      refine gj_bipush C (pc' := 22) (v := 43) rfl dX10_sum_20 (by decide) ?_
      refine gj_icmp_eq C (pc' := 25) (tgt := 38) rfl dX10_sum_22 rfl h (fun h => ?_) (fun h => ?_)
      · refine gj_drop (lv' := [some _, some _, none, none]) (And.intro rfl (And.intro rfl True.intro)) ?_
        exact kX10_sum_38 C hf_X10_product (fun h => ih h) h
      · refine gj_aload_n C (pc' := 26) (i := 0) rfl dX10_sum_25 rfl rfl ?_
        refine gj_aload_n C (pc' := 27) (i := 0) rfl dX10_sum_26 rfl rfl ?_
        refine gj_getI C (pc' := 30) rfl dX10_sum_27 wf_X10_100 h (fun v5 h => ?_)
        refine gj_callVi C (pc' := 33) rfl dX10_sum_30 wm_X10_103 uX10_byteAt h (kX10_byteAt _ _ _) (by omega) rfl rfl (Nat.le_of_ble_eq_true rfl) (fun v6 w7 h => ?_)
        refine gj_bipush C (pc' := 35) (v := 45) rfl dX10_sum_33 (by decide) ?_
        refine gj_icmp_ne C (pc' := 38) (tgt := 81) rfl dX10_sum_35 rfl h (fun h => ?_) (fun h => ?_)
        · refine gj_drop (lv' := [some _, some _, none, none]) (And.intro rfl (And.intro rfl True.intro)) ?_
          exact kX10_sum_38 C hf_X10_product (fun h => ih h) h
        · refine gj_iload_n C (pc' := 82) (i := 1) rfl dX10_sum_81 rfl rfl ?_
          exact gj_iret C dX10_sum_82 h
set_option maxHeartbeats 4000000 in
set_option maxRecDepth 100000 in
theorem kbX10_sum {n0 : Nat} {f_X10_product : Nat → ab_W → Option (Int32 × ab_W)} (hf_X10_product : ∀ (x0 : Nat) (w : ab_W) (r : Int32) (w1 : ab_W), f_X10_product x0 w = some (r, w1) → gj_Mi yX10_product cX10_product 4 (some .int) (3 + n0) [.ref x0] w r w1 ∧ ab_is w 10 x0 = true) : ∀ (x0 : Nat) (w : ab_W) (r : Int32) (w1 : ab_W), bX10_sum f_X10_product x0 w = some (r, w1) → gj_Mi yX10_sum cX10_sum 4 (some .int) (3 + n0 + 1) [.ref x0] w r w1 ∧ ab_is w 10 x0 = true := by
  intro x0 w r w1 h
  unfold bX10_sum at h
  obtain ⟨hi, h⟩ := ab_ite h
  refine ⟨?_, hi⟩
  refine gj_Mi_of RX10 [some (.ref x0), none, none, none] (by decide +kernel) rfl (Nat.le_of_ble_eq_true rfl) rfl (fun p l e s m args below meth c D ad tc A C => ?_)
  refine gj_aload_n C (pc' := 1) (i := 0) rfl dX10_sum_0 rfl rfl ?_
  refine gj_callVi C (pc' := 4) rfl dX10_sum_1 wm_X10_137 uX10_product h (hf_X10_product _ _) (by omega) rfl rfl (Nat.le_of_ble_eq_true rfl) (fun v1 w2 h => ?_)
  refine gj_istore_n C (pc' := 5) (i := 1) (lv' := [_, _, _, _]) rfl dX10_sum_4 rfl (by decide) rfl rfl ?_
  refine gj_drop (lv' := [some _, some _, none, none]) (And.intro rfl (And.intro rfl True.intro)) ?_
  exact kX10_sum_5 C hf_X10_product h
set_option maxHeartbeats 4000000 in
set_option maxRecDepth 100000 in
theorem kX10_compared_108 {p : Program} {l : Launch} {e : Env} {s : State} {m : MethodId} {args : Array Value} {below : List Frame} {meth : Method} {c : Code} {D : va_G} {ad : Nat → Nat} {tc : Nat → ClassId} {A : Nat → Prop} (C : gj_C p s m args meth c D ad tc A cX10_compared 5 (some .int) RX10) {n0 : Nat} {r : Int32} {w1 : ab_W} {f_X10_sum : Nat → ab_W → Option (Int32 × ab_W)} (hf_X10_sum : ∀ (x0 : Nat) (w : ab_W) (r : Int32) (w1 : ab_W), f_X10_sum x0 w = some (r, w1) → gj_Mi yX10_sum cX10_sum 4 (some .int) (3 + n0) [.ref x0] w r w1 ∧ ab_is w 10 x0 = true) {p0 : Int32} {w : ab_W} (h : sX10_compared_108 f_X10_sum p0 w = some (r, w1)) : gj_G p l e (gj_R (3 + n0 + 1)) s m args below meth c D ad tc A 5 (gj_Qi D ad tc A below args s r w1) 108 [none, none, none, none, none] [.int p0] w := by
  unfold sX10_compared_108 at h
  refine gj_istore C (pc' := 110) (i := 4) (lv' := [_, _, _, _, _]) rfl dX10_compared_108 (by decide) rfl rfl ?_
  refine gj_iload C (pc' := 112) (i := 4) rfl dX10_compared_110 rfl ?_
  refine gj_if_eq C (pc' := 115) (tgt := 119) rfl dX10_compared_112 rfl h (fun h => ?_) (fun h => ?_)
  · refine gj_iconst C (pc' := 120) (v := 0) rfl dX10_compared_119 (by decide) ?_
    exact gj_iret C dX10_compared_120 h
  · refine gj_iconst C (pc' := 116) (v := 1) rfl dX10_compared_115 (by decide) ?_
    refine gj_goto C (tgt := 120) dX10_compared_116 rfl ?_
    exact gj_iret C dX10_compared_120 h
set_option maxHeartbeats 4000000 in
set_option maxRecDepth 100000 in
theorem kX10_compared_45 {p : Program} {l : Launch} {e : Env} {s : State} {m : MethodId} {args : Array Value} {below : List Frame} {meth : Method} {c : Code} {D : va_G} {ad : Nat → Nat} {tc : Nat → ClassId} {A : Nat → Prop} (C : gj_C p s m args meth c D ad tc A cX10_compared 5 (some .int) RX10) {n0 : Nat} {r : Int32} {w1 : ab_W} {f_X10_sum : Nat → ab_W → Option (Int32 × ab_W)} (hf_X10_sum : ∀ (x0 : Nat) (w : ab_W) (r : Int32) (w1 : ab_W), f_X10_sum x0 w = some (r, w1) → gj_Mi yX10_sum cX10_sum 4 (some .int) (3 + n0) [.ref x0] w r w1 ∧ ab_is w 10 x0 = true) {x0 : Nat} {x1 : Int32} {x2 : Int32} {w : ab_W} (h : sX10_compared_45 f_X10_sum x0 x1 x2 w = some (r, w1)) : gj_G p l e (gj_R (3 + n0 + 1)) s m args below meth c D ad tc A 5 (gj_Qi D ad tc A below args s r w1) 45 [some (.ref x0), some (.int x1), some (.int x2), none, none] [] w := by
  unfold sX10_compared_45 at h
  refine gj_aload_n C (pc' := 46) (i := 0) rfl dX10_compared_45 rfl rfl ?_
  refine gj_dup C (pc' := 47) rfl dX10_compared_46 rfl ?_
  refine gj_getI C (pc' := 50) rfl dX10_compared_47 wf_X10_100 h (fun v1 h => ?_)
  refine gj_iconst C (pc' := 51) (v := 1) rfl dX10_compared_50 (by decide) ?_
  refine gj_iadd C (pc' := 52) rfl dX10_compared_51 ?_
  refine gj_putI C (pc' := 55) (ty := .int) rfl dX10_compared_52 wf_X10_100 wp_X10_8 rfl h (fun w2 h => ?_)
  refine gj_aload_n C (pc' := 56) (i := 0) rfl dX10_compared_55 rfl rfl ?_
  refine gj_callVi C (pc' := 59) rfl dX10_compared_56 wm_X10_140 uX10_sum h (hf_X10_sum _ _) (by omega) rfl rfl (Nat.le_of_ble_eq_true rfl) (fun v3 w4 h => ?_)
  refine gj_istore_n C (pc' := 60) (i := 3) (lv' := [_, _, _, _, _]) rfl dX10_compared_59 rfl (by decide) rfl rfl ?_
  refine gj_iload_n C (pc' := 61) (i := 2) rfl dX10_compared_60 rfl rfl ?_
  refine gj_bipush C (pc' := 63) (v := 60) rfl dX10_compared_61 (by decide) ?_
  refine gj_icmp_ne C (pc' := 66) (tgt := 79) rfl dX10_compared_63 rfl h (fun h => ?_) (fun h => ?_)
  · refine gj_iload_n C (pc' := 67) (i := 1) rfl dX10_compared_66 rfl rfl ?_
    refine gj_iload_n C (pc' := 68) (i := 3) rfl dX10_compared_67 rfl rfl ?_
    refine gj_icmp_ge C (pc' := 71) (tgt := 75) rfl dX10_compared_68 rfl h (fun h => ?_) (fun h => ?_)
    · refine gj_iconst C (pc' := 72) (v := 1) rfl dX10_compared_71 (by decide) ?_
      refine gj_goto C (tgt := 108) dX10_compared_72 rfl ?_
      refine gj_drop (lv' := [none, none, none, none, none]) True.intro ?_
      exact kX10_compared_108 C hf_X10_sum h
    · refine gj_iconst C (pc' := 76) (v := 0) rfl dX10_compared_75 (by decide) ?_
      refine gj_goto C (tgt := 108) dX10_compared_76 rfl ?_
      refine gj_drop (lv' := [none, none, none, none, none]) True.intro ?_
      exact kX10_compared_108 C hf_X10_sum h
  · refine gj_iload_n C (pc' := 80) (i := 2) rfl dX10_compared_79 rfl rfl ?_
    refine gj_bipush C (pc' := 82) (v := 61) rfl dX10_compared_80 (by decide) ?_
    refine gj_icmp_ne C (pc' := 85) (tgt := 98) rfl dX10_compared_82 rfl h (fun h => ?_) (fun h => ?_)
    · refine gj_iload_n C (pc' := 86) (i := 1) rfl dX10_compared_85 rfl rfl ?_
      refine gj_iload_n C (pc' := 87) (i := 3) rfl dX10_compared_86 rfl rfl ?_
      refine gj_icmp_ne C (pc' := 90) (tgt := 94) rfl dX10_compared_87 rfl h (fun h => ?_) (fun h => ?_)
      · refine gj_iconst C (pc' := 91) (v := 1) rfl dX10_compared_90 (by decide) ?_
        refine gj_goto C (tgt := 108) dX10_compared_91 rfl ?_
        refine gj_drop (lv' := [none, none, none, none, none]) True.intro ?_
        exact kX10_compared_108 C hf_X10_sum h
      · refine gj_iconst C (pc' := 95) (v := 0) rfl dX10_compared_94 (by decide) ?_
        refine gj_goto C (tgt := 108) dX10_compared_95 rfl ?_
        refine gj_drop (lv' := [none, none, none, none, none]) True.intro ?_
        exact kX10_compared_108 C hf_X10_sum h
    · refine gj_iload_n C (pc' := 99) (i := 1) rfl dX10_compared_98 rfl rfl ?_
      refine gj_iload_n C (pc' := 100) (i := 3) rfl dX10_compared_99 rfl rfl ?_
      refine gj_icmp_le C (pc' := 103) (tgt := 107) rfl dX10_compared_100 rfl h (fun h => ?_) (fun h => ?_)
      · refine gj_iconst C (pc' := 104) (v := 1) rfl dX10_compared_103 (by decide) ?_
        refine gj_goto C (tgt := 108) dX10_compared_104 rfl ?_
        refine gj_drop (lv' := [none, none, none, none, none]) True.intro ?_
        exact kX10_compared_108 C hf_X10_sum h
      · refine gj_iconst C (pc' := 108) (v := 0) rfl dX10_compared_107 (by decide) ?_
        refine gj_drop (lv' := [none, none, none, none, none]) True.intro ?_
        exact kX10_compared_108 C hf_X10_sum h
set_option maxHeartbeats 4000000 in
set_option maxRecDepth 100000 in
theorem kX10_compared_24 {p : Program} {l : Launch} {e : Env} {s : State} {m : MethodId} {args : Array Value} {below : List Frame} {meth : Method} {c : Code} {D : va_G} {ad : Nat → Nat} {tc : Nat → ClassId} {A : Nat → Prop} (C : gj_C p s m args meth c D ad tc A cX10_compared 5 (some .int) RX10) {n0 : Nat} {r : Int32} {w1 : ab_W} {f_X10_sum : Nat → ab_W → Option (Int32 × ab_W)} (hf_X10_sum : ∀ (x0 : Nat) (w : ab_W) (r : Int32) (w1 : ab_W), f_X10_sum x0 w = some (r, w1) → gj_Mi yX10_sum cX10_sum 4 (some .int) (3 + n0) [.ref x0] w r w1 ∧ ab_is w 10 x0 = true) {x0 : Nat} {x1 : Int32} {p0 : Int32} {w : ab_W} (h : sX10_compared_24 f_X10_sum x0 x1 p0 w = some (r, w1)) : gj_G p l e (gj_R (3 + n0 + 1)) s m args below meth c D ad tc A 5 (gj_Qi D ad tc A below args s r w1) 24 [some (.ref x0), some (.int x1), none, none, none] [.int p0] w := by
  unfold sX10_compared_24 at h
  refine gj_istore_n C (pc' := 25) (i := 2) (lv' := [_, _, _, _, _]) rfl dX10_compared_24 rfl (by decide) rfl rfl ?_
  refine gj_iload_n C (pc' := 26) (i := 2) rfl dX10_compared_25 rfl rfl ?_
  refine gj_bipush C (pc' := 28) (v := 60) rfl dX10_compared_26 (by decide) ?_
  refine gj_icmp_eq C (pc' := 31) (tgt := 45) rfl dX10_compared_28 rfl h (fun h => ?_) (fun h => ?_)
  · refine gj_drop (lv' := [some _, some _, some _, none, none]) (And.intro rfl (And.intro rfl (And.intro rfl True.intro))) ?_
    exact kX10_compared_45 C hf_X10_sum h
  · refine gj_iload_n C (pc' := 32) (i := 2) rfl dX10_compared_31 rfl rfl ?_
    refine gj_bipush C (pc' := 34) (v := 61) rfl dX10_compared_32 (by decide) ?_
    refine gj_icmp_eq C (pc' := 37) (tgt := 45) rfl dX10_compared_34 rfl h (fun h => ?_) (fun h => ?_)
    · refine gj_drop (lv' := [some _, some _, some _, none, none]) (And.intro rfl (And.intro rfl (And.intro rfl True.intro))) ?_
      exact kX10_compared_45 C hf_X10_sum h
    · refine gj_iload_n C (pc' := 38) (i := 2) rfl dX10_compared_37 rfl rfl ?_
      refine gj_bipush C (pc' := 40) (v := 62) rfl dX10_compared_38 (by decide) ?_
      refine gj_icmp_eq C (pc' := 43) (tgt := 45) rfl dX10_compared_40 rfl h (fun h => ?_) (fun h => ?_)
      · refine gj_drop (lv' := [some _, some _, some _, none, none]) (And.intro rfl (And.intro rfl (And.intro rfl True.intro))) ?_
        exact kX10_compared_45 C hf_X10_sum h
      · refine gj_iload_n C (pc' := 44) (i := 1) rfl dX10_compared_43 rfl rfl ?_
        exact gj_iret C dX10_compared_44 h
set_option maxHeartbeats 4000000 in
set_option maxRecDepth 100000 in
theorem kbX10_compared {n0 : Nat} {f_X10_sum : Nat → ab_W → Option (Int32 × ab_W)} (hf_X10_sum : ∀ (x0 : Nat) (w : ab_W) (r : Int32) (w1 : ab_W), f_X10_sum x0 w = some (r, w1) → gj_Mi yX10_sum cX10_sum 4 (some .int) (3 + n0) [.ref x0] w r w1 ∧ ab_is w 10 x0 = true) : ∀ (x0 : Nat) (w : ab_W) (r : Int32) (w1 : ab_W), bX10_compared f_X10_sum x0 w = some (r, w1) → gj_Mi yX10_compared cX10_compared 5 (some .int) (3 + n0 + 1) [.ref x0] w r w1 ∧ ab_is w 10 x0 = true := by
  intro x0 w r w1 h
  unfold bX10_compared at h
  obtain ⟨hi, h⟩ := ab_ite h
  refine ⟨?_, hi⟩
  refine gj_Mi_of RX10 [some (.ref x0), none, none, none, none] (by decide +kernel) rfl (Nat.le_of_ble_eq_true rfl) rfl (fun p l e s m args below meth c D ad tc A C => ?_)
  refine gj_aload_n C (pc' := 1) (i := 0) rfl dX10_compared_0 rfl rfl ?_
  refine gj_callVi C (pc' := 4) rfl dX10_compared_1 wm_X10_140 uX10_sum h (hf_X10_sum _ _) (by omega) rfl rfl (Nat.le_of_ble_eq_true rfl) (fun v1 w2 h => ?_)
  refine gj_istore_n C (pc' := 5) (i := 1) (lv' := [_, _, _, _, _]) rfl dX10_compared_4 rfl (by decide) rfl rfl ?_
  refine gj_aload_n C (pc' := 6) (i := 0) rfl dX10_compared_5 rfl rfl ?_
  refine gj_getI C (pc' := 9) rfl dX10_compared_6 wf_X10_96 h (fun v3 h => ?_)
  refine gj_if_eq C (pc' := 12) (tgt := 23) rfl dX10_compared_9 rfl h (fun h => ?_) (fun h => ?_)
  · refine gj_iconst C (pc' := 24) (v := (-1)) rfl dX10_compared_23 (by decide) ?_
    refine gj_drop (lv' := [some _, some _, none, none, none]) (And.intro rfl (And.intro rfl True.intro)) ?_
    exact kX10_compared_24 C hf_X10_sum h
  · refine gj_aload_n C (pc' := 13) (i := 0) rfl dX10_compared_12 rfl rfl ?_
    refine gj_aload_n C (pc' := 14) (i := 0) rfl dX10_compared_13 rfl rfl ?_
    refine gj_getI C (pc' := 17) rfl dX10_compared_14 wf_X10_100 h (fun v4 h => ?_)
    refine gj_callVi C (pc' := 20) rfl dX10_compared_17 wm_X10_103 uX10_byteAt h (kX10_byteAt _ _ _) (by omega) rfl rfl (Nat.le_of_ble_eq_true rfl) (fun v5 w6 h => ?_)
    refine gj_goto C (tgt := 24) dX10_compared_20 rfl ?_
    refine gj_drop (lv' := [some _, some _, none, none, none]) (And.intro rfl (And.intro rfl True.intro)) ?_
    exact kX10_compared_24 C hf_X10_sum h
set_option maxHeartbeats 4000000 in
set_option maxRecDepth 100000 in
theorem kX10_both_53 {p : Program} {l : Launch} {e : Env} {s : State} {m : MethodId} {args : Array Value} {below : List Frame} {meth : Method} {c : Code} {D : va_G} {ad : Nat → Nat} {tc : Nat → ClassId} {A : Nat → Prop} (C : gj_C p s m args meth c D ad tc A cX10_both 3 (some .int) RX10) {n0 : Nat} {r : Int32} {w1 : ab_W} {f_X10_compared : Nat → ab_W → Option (Int32 × ab_W)} {k5 : Nat → Int32 → ab_W → Option (Int32 × ab_W)} (hf_X10_compared : ∀ (x0 : Nat) (w : ab_W) (r : Int32) (w1 : ab_W), f_X10_compared x0 w = some (r, w1) → gj_Mi yX10_compared cX10_compared 5 (some .int) (3 + n0) [.ref x0] w r w1 ∧ ab_is w 10 x0 = true) (hk5 : ∀ {x0 : Nat} {x1 : Int32} {w : ab_W}, k5 x0 x1 w = some (r, w1) → gj_G p l e (gj_R (3 + n0 + 1)) s m args below meth c D ad tc A 3 (gj_Qi D ad tc A below args s r w1) 5 [some (.ref x0), some (.int x1), none] [] w) {x0 : Nat} {p0 : Int32} {w : ab_W} (h : sX10_both_53 f_X10_compared k5 x0 p0 w = some (r, w1)) : gj_G p l e (gj_R (3 + n0 + 1)) s m args below meth c D ad tc A 3 (gj_Qi D ad tc A below args s r w1) 53 [some (.ref x0), none, none] [.int p0] w := by
  unfold sX10_both_53 at h
  refine gj_istore_n C (pc' := 54) (i := 1) (lv' := [_, _, _]) rfl dX10_both_53 rfl (by decide) rfl rfl ?_
  refine gj_goto C (tgt := 5) dX10_both_54 rfl ?_
  refine gj_drop (lv' := [some _, some _, none]) (And.intro rfl (And.intro rfl True.intro)) ?_
  exact hk5 h
set_option maxHeartbeats 4000000 in
set_option maxRecDepth 100000 in
theorem kX10_both_52 {p : Program} {l : Launch} {e : Env} {s : State} {m : MethodId} {args : Array Value} {below : List Frame} {meth : Method} {c : Code} {D : va_G} {ad : Nat → Nat} {tc : Nat → ClassId} {A : Nat → Prop} (C : gj_C p s m args meth c D ad tc A cX10_both 3 (some .int) RX10) {n0 : Nat} {r : Int32} {w1 : ab_W} {f_X10_compared : Nat → ab_W → Option (Int32 × ab_W)} {k5 : Nat → Int32 → ab_W → Option (Int32 × ab_W)} (hf_X10_compared : ∀ (x0 : Nat) (w : ab_W) (r : Int32) (w1 : ab_W), f_X10_compared x0 w = some (r, w1) → gj_Mi yX10_compared cX10_compared 5 (some .int) (3 + n0) [.ref x0] w r w1 ∧ ab_is w 10 x0 = true) (hk5 : ∀ {x0 : Nat} {x1 : Int32} {w : ab_W}, k5 x0 x1 w = some (r, w1) → gj_G p l e (gj_R (3 + n0 + 1)) s m args below meth c D ad tc A 3 (gj_Qi D ad tc A below args s r w1) 5 [some (.ref x0), some (.int x1), none] [] w) {x0 : Nat} {w : ab_W} (h : sX10_both_52 f_X10_compared k5 x0 w = some (r, w1)) : gj_G p l e (gj_R (3 + n0 + 1)) s m args below meth c D ad tc A 3 (gj_Qi D ad tc A below args s r w1) 52 [some (.ref x0), none, none] [] w := by
  unfold sX10_both_52 at h
  refine gj_iconst C (pc' := 53) (v := 0) rfl dX10_both_52 (by decide) ?_
  refine gj_drop (lv' := [some _, none, none]) (And.intro rfl True.intro) ?_
  exact kX10_both_53 C hf_X10_compared (fun h => hk5 h) h
set_option maxHeartbeats 4000000 in
set_option maxRecDepth 100000 in
theorem kX10_both_5 {p : Program} {l : Launch} {e : Env} {s : State} {m : MethodId} {args : Array Value} {below : List Frame} {meth : Method} {c : Code} {D : va_G} {ad : Nat → Nat} {tc : Nat → ClassId} {A : Nat → Prop} (C : gj_C p s m args meth c D ad tc A cX10_both 3 (some .int) RX10) {n0 : Nat} {r : Int32} {w1 : ab_W} {f_X10_compared : Nat → ab_W → Option (Int32 × ab_W)} (hf_X10_compared : ∀ (x0 : Nat) (w : ab_W) (r : Int32) (w1 : ab_W), f_X10_compared x0 w = some (r, w1) → gj_Mi yX10_compared cX10_compared 5 (some .int) (3 + n0) [.ref x0] w r w1 ∧ ab_is w 10 x0 = true) : ∀ {n : Nat} {x0 : Nat} {x1 : Int32} {w : ab_W}, sX10_both_5 f_X10_compared n x0 x1 w = some (r, w1) → gj_G p l e (gj_R (3 + n0 + 1)) s m args below meth c D ad tc A 3 (gj_Qi D ad tc A below args s r w1) 5 [some (.ref x0), some (.int x1), none] [] w := by
  intro n
  induction n with
  | zero =>
    intros
    rename_i h
    cases h
  | succ n ih =>
    intro x0 x1 w h
    rw [sX10_both_5] at h
    refine gj_aload_n C (pc' := 6) (i := 0) rfl dX10_both_5 rfl rfl ?_
    refine gj_getI C (pc' := 9) rfl dX10_both_6 wf_X10_96 h (fun v1 h => ?_)
    refine gj_if_eq C (pc' := 12) (tgt := 57) rfl dX10_both_9 rfl h (fun h => ?_) (fun h => ?_)
    · refine gj_iload_n C (pc' := 58) (i := 1) rfl dX10_both_57 rfl rfl ?_
      exact gj_iret C dX10_both_58 h
    · refine gj_aload_n C (pc' := 13) (i := 0) rfl dX10_both_12 rfl rfl ?_
      refine gj_aload_n C (pc' := 14) (i := 0) rfl dX10_both_13 rfl rfl ?_
      refine gj_getI C (pc' := 17) rfl dX10_both_14 wf_X10_100 h (fun v2 h => ?_)
      refine gj_callVi C (pc' := 20) rfl dX10_both_17 wm_X10_103 uX10_byteAt h (kX10_byteAt _ _ _) (by omega) rfl rfl (Nat.le_of_ble_eq_true rfl) (fun v3 w4 h => ?_)
      refine gj_bipush C (pc' := 22) (v := 38) rfl dX10_both_20 (by decide) ?_
      refine gj_icmp_ne C (pc' := 25) (tgt := 57) rfl dX10_both_22 rfl h (fun h => ?_) (fun h => ?_)
      · refine gj_aload_n C (pc' := 26) (i := 0) rfl dX10_both_25 rfl rfl ?_
        refine gj_dup C (pc' := 27) rfl dX10_both_26 rfl ?_
        refine gj_getI C (pc' := 30) rfl dX10_both_27 wf_X10_100 h (fun v5 h => ?_)
        refine gj_iconst C (pc' := 31) (v := 1) rfl dX10_both_30 (by decide) ?_
        refine gj_iadd C (pc' := 32) rfl dX10_both_31 ?_
        refine gj_putI C (pc' := 35) (ty := .int) rfl dX10_both_32 wf_X10_100 wp_X10_8 rfl h (fun w6 h => ?_)
        refine gj_aload_n C (pc' := 36) (i := 0) rfl dX10_both_35 rfl rfl ?_
        refine gj_callVi C (pc' := 39) rfl dX10_both_36 wm_X10_143 uX10_compared h (hf_X10_compared _ _) (by omega) rfl rfl (Nat.le_of_ble_eq_true rfl) (fun v7 w8 h => ?_)
        refine gj_istore_n C (pc' := 40) (i := 2) (lv' := [_, _, _]) rfl dX10_both_39 rfl (by decide) rfl rfl ?_
        refine gj_iload_n C (pc' := 41) (i := 1) rfl dX10_both_40 rfl rfl ?_
        refine gj_if_eq C (pc' := 44) (tgt := 52) rfl dX10_both_41 rfl h (fun h => ?_) (fun h => ?_)
        · refine gj_drop (lv' := [some _, none, none]) (And.intro rfl True.intro) ?_
          exact kX10_both_52 C hf_X10_compared (fun h => ih h) h
        · refine gj_iload_n C (pc' := 45) (i := 2) rfl dX10_both_44 rfl rfl ?_
          refine gj_if_eq C (pc' := 48) (tgt := 52) rfl dX10_both_45 rfl h (fun h => ?_) (fun h => ?_)
          · refine gj_drop (lv' := [some _, none, none]) (And.intro rfl True.intro) ?_
            exact kX10_both_52 C hf_X10_compared (fun h => ih h) h
          · refine gj_iconst C (pc' := 49) (v := 1) rfl dX10_both_48 (by decide) ?_
            refine gj_goto C (tgt := 53) dX10_both_49 rfl ?_
            refine gj_drop (lv' := [some _, none, none]) (And.intro rfl True.intro) ?_
            exact kX10_both_53 C hf_X10_compared (fun h => ih h) h
      · refine gj_iload_n C (pc' := 58) (i := 1) rfl dX10_both_57 rfl rfl ?_
        exact gj_iret C dX10_both_58 h
set_option maxHeartbeats 4000000 in
set_option maxRecDepth 100000 in
theorem kbX10_both {n0 : Nat} {f_X10_compared : Nat → ab_W → Option (Int32 × ab_W)} (hf_X10_compared : ∀ (x0 : Nat) (w : ab_W) (r : Int32) (w1 : ab_W), f_X10_compared x0 w = some (r, w1) → gj_Mi yX10_compared cX10_compared 5 (some .int) (3 + n0) [.ref x0] w r w1 ∧ ab_is w 10 x0 = true) : ∀ (x0 : Nat) (w : ab_W) (r : Int32) (w1 : ab_W), bX10_both f_X10_compared x0 w = some (r, w1) → gj_Mi yX10_both cX10_both 3 (some .int) (3 + n0 + 1) [.ref x0] w r w1 ∧ ab_is w 10 x0 = true := by
  intro x0 w r w1 h
  unfold bX10_both at h
  obtain ⟨hi, h⟩ := ab_ite h
  refine ⟨?_, hi⟩
  refine gj_Mi_of RX10 [some (.ref x0), none, none] (by decide +kernel) rfl (Nat.le_of_ble_eq_true rfl) rfl (fun p l e s m args below meth c D ad tc A C => ?_)
  refine gj_aload_n C (pc' := 1) (i := 0) rfl dX10_both_0 rfl rfl ?_
  refine gj_callVi C (pc' := 4) rfl dX10_both_1 wm_X10_143 uX10_compared h (hf_X10_compared _ _) (by omega) rfl rfl (Nat.le_of_ble_eq_true rfl) (fun v1 w2 h => ?_)
  refine gj_istore_n C (pc' := 5) (i := 1) (lv' := [_, _, _]) rfl dX10_both_4 rfl (by decide) rfl rfl ?_
  refine gj_drop (lv' := [some _, some _, none]) (And.intro rfl (And.intro rfl True.intro)) ?_
  exact kX10_both_5 C hf_X10_compared h
set_option maxHeartbeats 4000000 in
set_option maxRecDepth 100000 in
theorem kX10_whole_53 {p : Program} {l : Launch} {e : Env} {s : State} {m : MethodId} {args : Array Value} {below : List Frame} {meth : Method} {c : Code} {D : va_G} {ad : Nat → Nat} {tc : Nat → ClassId} {A : Nat → Prop} (C : gj_C p s m args meth c D ad tc A cX10_whole 3 (some .int) RX10) {n0 : Nat} {r : Int32} {w1 : ab_W} {f_X10_both : Nat → ab_W → Option (Int32 × ab_W)} {k5 : Nat → Int32 → ab_W → Option (Int32 × ab_W)} (hf_X10_both : ∀ (x0 : Nat) (w : ab_W) (r : Int32) (w1 : ab_W), f_X10_both x0 w = some (r, w1) → gj_Mi yX10_both cX10_both 3 (some .int) (3 + n0) [.ref x0] w r w1 ∧ ab_is w 10 x0 = true) (hk5 : ∀ {x0 : Nat} {x1 : Int32} {w : ab_W}, k5 x0 x1 w = some (r, w1) → gj_G p l e (gj_R (3 + n0 + 1)) s m args below meth c D ad tc A 3 (gj_Qi D ad tc A below args s r w1) 5 [some (.ref x0), some (.int x1), none] [] w) {x0 : Nat} {p0 : Int32} {w : ab_W} (h : sX10_whole_53 f_X10_both k5 x0 p0 w = some (r, w1)) : gj_G p l e (gj_R (3 + n0 + 1)) s m args below meth c D ad tc A 3 (gj_Qi D ad tc A below args s r w1) 53 [some (.ref x0), none, none] [.int p0] w := by
  unfold sX10_whole_53 at h
  refine gj_istore_n C (pc' := 54) (i := 1) (lv' := [_, _, _]) rfl dX10_whole_53 rfl (by decide) rfl rfl ?_
  refine gj_goto C (tgt := 5) dX10_whole_54 rfl ?_
  refine gj_drop (lv' := [some _, some _, none]) (And.intro rfl (And.intro rfl True.intro)) ?_
  exact hk5 h
set_option maxHeartbeats 4000000 in
set_option maxRecDepth 100000 in
theorem kX10_whole_48 {p : Program} {l : Launch} {e : Env} {s : State} {m : MethodId} {args : Array Value} {below : List Frame} {meth : Method} {c : Code} {D : va_G} {ad : Nat → Nat} {tc : Nat → ClassId} {A : Nat → Prop} (C : gj_C p s m args meth c D ad tc A cX10_whole 3 (some .int) RX10) {n0 : Nat} {r : Int32} {w1 : ab_W} {f_X10_both : Nat → ab_W → Option (Int32 × ab_W)} {k5 : Nat → Int32 → ab_W → Option (Int32 × ab_W)} (hf_X10_both : ∀ (x0 : Nat) (w : ab_W) (r : Int32) (w1 : ab_W), f_X10_both x0 w = some (r, w1) → gj_Mi yX10_both cX10_both 3 (some .int) (3 + n0) [.ref x0] w r w1 ∧ ab_is w 10 x0 = true) (hk5 : ∀ {x0 : Nat} {x1 : Int32} {w : ab_W}, k5 x0 x1 w = some (r, w1) → gj_G p l e (gj_R (3 + n0 + 1)) s m args below meth c D ad tc A 3 (gj_Qi D ad tc A below args s r w1) 5 [some (.ref x0), some (.int x1), none] [] w) {x0 : Nat} {w : ab_W} (h : sX10_whole_48 f_X10_both k5 x0 w = some (r, w1)) : gj_G p l e (gj_R (3 + n0 + 1)) s m args below meth c D ad tc A 3 (gj_Qi D ad tc A below args s r w1) 48 [some (.ref x0), none, none] [] w := by
  unfold sX10_whole_48 at h
  refine gj_iconst C (pc' := 49) (v := 1) rfl dX10_whole_48 (by decide) ?_
  refine gj_goto C (tgt := 53) dX10_whole_49 rfl ?_
  refine gj_drop (lv' := [some _, none, none]) (And.intro rfl True.intro) ?_
  exact kX10_whole_53 C hf_X10_both (fun h => hk5 h) h
set_option maxHeartbeats 4000000 in
set_option maxRecDepth 100000 in
theorem kX10_whole_5 {p : Program} {l : Launch} {e : Env} {s : State} {m : MethodId} {args : Array Value} {below : List Frame} {meth : Method} {c : Code} {D : va_G} {ad : Nat → Nat} {tc : Nat → ClassId} {A : Nat → Prop} (C : gj_C p s m args meth c D ad tc A cX10_whole 3 (some .int) RX10) {n0 : Nat} {r : Int32} {w1 : ab_W} {f_X10_both : Nat → ab_W → Option (Int32 × ab_W)} (hf_X10_both : ∀ (x0 : Nat) (w : ab_W) (r : Int32) (w1 : ab_W), f_X10_both x0 w = some (r, w1) → gj_Mi yX10_both cX10_both 3 (some .int) (3 + n0) [.ref x0] w r w1 ∧ ab_is w 10 x0 = true) : ∀ {n : Nat} {x0 : Nat} {x1 : Int32} {w : ab_W}, sX10_whole_5 f_X10_both n x0 x1 w = some (r, w1) → gj_G p l e (gj_R (3 + n0 + 1)) s m args below meth c D ad tc A 3 (gj_Qi D ad tc A below args s r w1) 5 [some (.ref x0), some (.int x1), none] [] w := by
  intro n
  induction n with
  | zero =>
    intros
    rename_i h
    cases h
  | succ n ih =>
    intro x0 x1 w h
    rw [sX10_whole_5] at h
    refine gj_aload_n C (pc' := 6) (i := 0) rfl dX10_whole_5 rfl rfl ?_
    refine gj_getI C (pc' := 9) rfl dX10_whole_6 wf_X10_96 h (fun v1 h => ?_)
    refine gj_if_eq C (pc' := 12) (tgt := 57) rfl dX10_whole_9 rfl h (fun h => ?_) (fun h => ?_)
    · refine gj_iload_n C (pc' := 58) (i := 1) rfl dX10_whole_57 rfl rfl ?_
      exact gj_iret C dX10_whole_58 h
    · refine gj_aload_n C (pc' := 13) (i := 0) rfl dX10_whole_12 rfl rfl ?_
      refine gj_aload_n C (pc' := 14) (i := 0) rfl dX10_whole_13 rfl rfl ?_
      refine gj_getI C (pc' := 17) rfl dX10_whole_14 wf_X10_100 h (fun v2 h => ?_)
      refine gj_callVi C (pc' := 20) rfl dX10_whole_17 wm_X10_103 uX10_byteAt h (kX10_byteAt _ _ _) (by omega) rfl rfl (Nat.le_of_ble_eq_true rfl) (fun v3 w4 h => ?_)
      refine gj_bipush C (pc' := 22) (v := 124) rfl dX10_whole_20 (by decide) ?_
      refine gj_icmp_ne C (pc' := 25) (tgt := 57) rfl dX10_whole_22 rfl h (fun h => ?_) (fun h => ?_)
      · refine gj_aload_n C (pc' := 26) (i := 0) rfl dX10_whole_25 rfl rfl ?_
        refine gj_dup C (pc' := 27) rfl dX10_whole_26 rfl ?_
        refine gj_getI C (pc' := 30) rfl dX10_whole_27 wf_X10_100 h (fun v5 h => ?_)
        refine gj_iconst C (pc' := 31) (v := 1) rfl dX10_whole_30 (by decide) ?_
        refine gj_iadd C (pc' := 32) rfl dX10_whole_31 ?_
        refine gj_putI C (pc' := 35) (ty := .int) rfl dX10_whole_32 wf_X10_100 wp_X10_8 rfl h (fun w6 h => ?_)
        refine gj_aload_n C (pc' := 36) (i := 0) rfl dX10_whole_35 rfl rfl ?_
        refine gj_callVi C (pc' := 39) rfl dX10_whole_36 wm_X10_146 uX10_both h (hf_X10_both _ _) (by omega) rfl rfl (Nat.le_of_ble_eq_true rfl) (fun v7 w8 h => ?_)
        refine gj_istore_n C (pc' := 40) (i := 2) (lv' := [_, _, _]) rfl dX10_whole_39 rfl (by decide) rfl rfl ?_
        refine gj_iload_n C (pc' := 41) (i := 1) rfl dX10_whole_40 rfl rfl ?_
        refine gj_if_ne C (pc' := 44) (tgt := 48) rfl dX10_whole_41 rfl h (fun h => ?_) (fun h => ?_)
        · refine gj_iload_n C (pc' := 45) (i := 2) rfl dX10_whole_44 rfl rfl ?_
          refine gj_if_eq C (pc' := 48) (tgt := 52) rfl dX10_whole_45 rfl h (fun h => ?_) (fun h => ?_)
          · refine gj_iconst C (pc' := 53) (v := 0) rfl dX10_whole_52 (by decide) ?_
            refine gj_drop (lv' := [some _, none, none]) (And.intro rfl True.intro) ?_
            exact kX10_whole_53 C hf_X10_both (fun h => ih h) h
          · refine gj_drop (lv' := [some _, none, none]) (And.intro rfl True.intro) ?_
            exact kX10_whole_48 C hf_X10_both (fun h => ih h) h
        · refine gj_drop (lv' := [some _, none, none]) (And.intro rfl True.intro) ?_
          exact kX10_whole_48 C hf_X10_both (fun h => ih h) h
      · refine gj_iload_n C (pc' := 58) (i := 1) rfl dX10_whole_57 rfl rfl ?_
        exact gj_iret C dX10_whole_58 h
set_option maxHeartbeats 4000000 in
set_option maxRecDepth 100000 in
theorem kbX10_whole {n0 : Nat} {f_X10_both : Nat → ab_W → Option (Int32 × ab_W)} (hf_X10_both : ∀ (x0 : Nat) (w : ab_W) (r : Int32) (w1 : ab_W), f_X10_both x0 w = some (r, w1) → gj_Mi yX10_both cX10_both 3 (some .int) (3 + n0) [.ref x0] w r w1 ∧ ab_is w 10 x0 = true) : ∀ (x0 : Nat) (w : ab_W) (r : Int32) (w1 : ab_W), bX10_whole f_X10_both x0 w = some (r, w1) → gj_Mi yX10_whole cX10_whole 3 (some .int) (3 + n0 + 1) [.ref x0] w r w1 ∧ ab_is w 10 x0 = true := by
  intro x0 w r w1 h
  unfold bX10_whole at h
  obtain ⟨hi, h⟩ := ab_ite h
  refine ⟨?_, hi⟩
  refine gj_Mi_of RX10 [some (.ref x0), none, none] (by decide +kernel) rfl (Nat.le_of_ble_eq_true rfl) rfl (fun p l e s m args below meth c D ad tc A C => ?_)
  refine gj_aload_n C (pc' := 1) (i := 0) rfl dX10_whole_0 rfl rfl ?_
  refine gj_callVi C (pc' := 4) rfl dX10_whole_1 wm_X10_146 uX10_both h (hf_X10_both _ _) (by omega) rfl rfl (Nat.le_of_ble_eq_true rfl) (fun v1 w2 h => ?_)
  refine gj_istore_n C (pc' := 5) (i := 1) (lv' := [_, _, _]) rfl dX10_whole_4 rfl (by decide) rfl rfl ?_
  refine gj_drop (lv' := [some _, some _, none]) (And.intro rfl (And.intro rfl True.intro)) ?_
  exact kX10_whole_5 C hf_X10_both h
set_option maxHeartbeats 4000000 in
set_option maxRecDepth 100000 in
theorem kgX10_factor : ∀ n : Nat, (∀ (x0 : Nat) (w : ab_W) (r : Int32) (w1 : ab_W), sX10_factor n x0 w = some (r, w1) → gj_Mi yX10_factor cX10_factor 3 (some .int) (3 + n) [.ref x0] w r w1 ∧ ab_is w 10 x0 = true) ∧ (∀ (x0 : Nat) (w : ab_W) (r : Int32) (w1 : ab_W), sX10_product n x0 w = some (r, w1) → gj_Mi yX10_product cX10_product 4 (some .int) (3 + n) [.ref x0] w r w1 ∧ ab_is w 10 x0 = true) ∧ (∀ (x0 : Nat) (w : ab_W) (r : Int32) (w1 : ab_W), sX10_sum n x0 w = some (r, w1) → gj_Mi yX10_sum cX10_sum 4 (some .int) (3 + n) [.ref x0] w r w1 ∧ ab_is w 10 x0 = true) ∧ (∀ (x0 : Nat) (w : ab_W) (r : Int32) (w1 : ab_W), sX10_compared n x0 w = some (r, w1) → gj_Mi yX10_compared cX10_compared 5 (some .int) (3 + n) [.ref x0] w r w1 ∧ ab_is w 10 x0 = true) ∧ (∀ (x0 : Nat) (w : ab_W) (r : Int32) (w1 : ab_W), sX10_both n x0 w = some (r, w1) → gj_Mi yX10_both cX10_both 3 (some .int) (3 + n) [.ref x0] w r w1 ∧ ab_is w 10 x0 = true) ∧ (∀ (x0 : Nat) (w : ab_W) (r : Int32) (w1 : ab_W), sX10_whole n x0 w = some (r, w1) → gj_Mi yX10_whole cX10_whole 3 (some .int) (3 + n) [.ref x0] w r w1 ∧ ab_is w 10 x0 = true) := by
  intro n
  induction n with
  | zero => exact ⟨(by intros; rename_i h; cases h), (by intros; rename_i h; cases h), (by intros; rename_i h; cases h), (by intros; rename_i h; cases h), (by intros; rename_i h; cases h), (by intros; rename_i h; cases h)⟩
  | succ n ih =>
    obtain ⟨hX10_factor, hX10_product, hX10_sum, hX10_compared, hX10_both, hX10_whole⟩ := ih
    exact ⟨kbX10_factor hX10_factor hX10_whole, kbX10_product hX10_factor, kbX10_sum hX10_product, kbX10_compared hX10_sum, kbX10_both hX10_compared, kbX10_whole hX10_both⟩
set_option maxHeartbeats 4000000 in
set_option maxRecDepth 100000 in
theorem kX10_factor (n : Nat) : ∀ (x0 : Nat) (w : ab_W) (r : Int32) (w1 : ab_W), sX10_factor n x0 w = some (r, w1) → gj_Mi yX10_factor cX10_factor 3 (some .int) (3 + n) [.ref x0] w r w1 ∧ ab_is w 10 x0 = true := (kgX10_factor n).1
set_option maxHeartbeats 4000000 in
set_option maxRecDepth 100000 in
theorem kX10_product (n : Nat) : ∀ (x0 : Nat) (w : ab_W) (r : Int32) (w1 : ab_W), sX10_product n x0 w = some (r, w1) → gj_Mi yX10_product cX10_product 4 (some .int) (3 + n) [.ref x0] w r w1 ∧ ab_is w 10 x0 = true := (kgX10_factor n).2.1
set_option maxHeartbeats 4000000 in
set_option maxRecDepth 100000 in
theorem kX10_sum (n : Nat) : ∀ (x0 : Nat) (w : ab_W) (r : Int32) (w1 : ab_W), sX10_sum n x0 w = some (r, w1) → gj_Mi yX10_sum cX10_sum 4 (some .int) (3 + n) [.ref x0] w r w1 ∧ ab_is w 10 x0 = true := (kgX10_factor n).2.2.1
set_option maxHeartbeats 4000000 in
set_option maxRecDepth 100000 in
theorem kX10_compared (n : Nat) : ∀ (x0 : Nat) (w : ab_W) (r : Int32) (w1 : ab_W), sX10_compared n x0 w = some (r, w1) → gj_Mi yX10_compared cX10_compared 5 (some .int) (3 + n) [.ref x0] w r w1 ∧ ab_is w 10 x0 = true := (kgX10_factor n).2.2.2.1
set_option maxHeartbeats 4000000 in
set_option maxRecDepth 100000 in
theorem kX10_both (n : Nat) : ∀ (x0 : Nat) (w : ab_W) (r : Int32) (w1 : ab_W), sX10_both n x0 w = some (r, w1) → gj_Mi yX10_both cX10_both 3 (some .int) (3 + n) [.ref x0] w r w1 ∧ ab_is w 10 x0 = true := (kgX10_factor n).2.2.2.2.1
set_option maxHeartbeats 4000000 in
set_option maxRecDepth 100000 in
theorem kX10_whole (n : Nat) : ∀ (x0 : Nat) (w : ab_W) (r : Int32) (w1 : ab_W), sX10_whole n x0 w = some (r, w1) → gj_Mi yX10_whole cX10_whole 3 (some .int) (3 + n) [.ref x0] w r w1 ∧ ab_is w 10 x0 = true := (kgX10_factor n).2.2.2.2.2
set_option maxHeartbeats 4000000 in
set_option maxRecDepth 100000 in
theorem kX10_walks_78 {p : Program} {l : Launch} {e : Env} {s : State} {m : MethodId} {args : Array Value} {below : List Frame} {meth : Method} {c : Code} {D : va_G} {ad : Nat → Nat} {tc : Nat → ClassId} {A : Nat → Prop} (C : gj_C p s m args meth c D ad tc A cX10_walks 6 (some .int) RX10) {r : Int32} {w1 : ab_W} {x5 : Int32} {p0 : Nat} {p1 : Int32} {w : ab_W} (h : sX10_walks_78 x5 p0 p1 w = some (r, w1)) : gj_G p l e (gj_R 104) s m args below meth c D ad tc A 6 (gj_Qi D ad tc A below args s r w1) 78 [none, none, none, none, none, some (.int x5)] [.int p1, .ref p0] w := by
  unfold sX10_walks_78 at h
  refine gj_putZ C (pc' := 81) (ty := .int) rfl dX10_walks_78 wf_X10_96 wp_X10_14 rfl h (fun w1 h => ?_)
  refine gj_iload C (pc' := 83) (i := 5) rfl dX10_walks_81 rfl ?_
  exact gj_iret C dX10_walks_83 h
set_option maxHeartbeats 4000000 in
set_option maxRecDepth 100000 in
theorem kX10_walks_77 {p : Program} {l : Launch} {e : Env} {s : State} {m : MethodId} {args : Array Value} {below : List Frame} {meth : Method} {c : Code} {D : va_G} {ad : Nat → Nat} {tc : Nat → ClassId} {A : Nat → Prop} (C : gj_C p s m args meth c D ad tc A cX10_walks 6 (some .int) RX10) {r : Int32} {w1 : ab_W} {x5 : Int32} {p0 : Nat} {w : ab_W} (h : sX10_walks_77 x5 p0 w = some (r, w1)) : gj_G p l e (gj_R 104) s m args below meth c D ad tc A 6 (gj_Qi D ad tc A below args s r w1) 77 [none, none, none, none, none, some (.int x5)] [.ref p0] w := by
  unfold sX10_walks_77 at h
  refine gj_iconst C (pc' := 78) (v := 0) rfl dX10_walks_77 (by decide) ?_
  refine gj_drop (lv' := [none, none, none, none, none, some _]) (And.intro rfl True.intro) ?_
  exact kX10_walks_78 C h
set_option maxHeartbeats 4000000 in
set_option maxRecDepth 100000 in
theorem kX10_walks : ∀ (x0 : Nat) (x1 : Int32) (x2 : Int32) (x3 : Int32) (x4 : Int32) (w : ab_W) (r : Int32) (w1 : ab_W), sX10_walks x0 x1 x2 x3 x4 w = some (r, w1) → gj_Mi yX10_walks cX10_walks 6 (some .int) 104 [.ref x0, .int x1, .int x2, .int x3, .int x4] w r w1 ∧ ab_is w 10 x0 = true := by
  intro x0 x1 x2 x3 x4 w r w1 h
  unfold sX10_walks at h
  obtain ⟨hi, h⟩ := ab_ite h
  refine ⟨?_, hi⟩
  refine gj_Mi_of RX10 [some (.ref x0), some (.int x1), some (.int x2), some (.int x3), some (.int x4), none] (by decide +kernel) rfl (Nat.le_of_ble_eq_true rfl) rfl (fun p l e s m args below meth c D ad tc A C => ?_)
  refine gj_aload_n C (pc' := 1) (i := 0) rfl dX10_walks_0 rfl rfl ?_
  refine gj_iload_n C (pc' := 2) (i := 1) rfl dX10_walks_1 rfl rfl ?_
  refine gj_putI C (pc' := 5) (ty := .int) rfl dX10_walks_2 wf_X10_93 wp_X10_7 rfl h (fun w1 h => ?_)
  refine gj_aload_n C (pc' := 6) (i := 0) rfl dX10_walks_5 rfl rfl ?_
  refine gj_iconst C (pc' := 7) (v := 0) rfl dX10_walks_6 (by decide) ?_
  refine gj_putI C (pc' := 10) (ty := .int) rfl dX10_walks_7 wf_X10_100 wp_X10_8 rfl h (fun w2 h => ?_)
  refine gj_aload_n C (pc' := 11) (i := 0) rfl dX10_walks_10 rfl rfl ?_
  refine gj_aload_n C (pc' := 12) (i := 0) rfl dX10_walks_11 rfl rfl ?_
  refine gj_getR C (pc' := 15) rfl dX10_walks_12 wf_X10_7 h (fun v3 h => ?_)
  refine gj_iconst C (pc' := 16) (v := 5) rfl dX10_walks_15 (by decide) ?_
  refine gj_iload_n C (pc' := 17) (i := 1) rfl dX10_walks_16 rfl rfl ?_
  refine gj_iadd C (pc' := 18) rfl dX10_walks_17 ?_
  refine gj_iald C (pc' := 19) rfl dX10_walks_18 h (fun v4 h => ?_)
  refine gj_putI C (pc' := 22) (ty := .int) rfl dX10_walks_19 wf_X10_89 wp_X10_9 rfl h (fun w5 h => ?_)
  refine gj_aload_n C (pc' := 23) (i := 0) rfl dX10_walks_22 rfl rfl ?_
  refine gj_iconst C (pc' := 24) (v := 0) rfl dX10_walks_23 (by decide) ?_
  refine gj_putI C (pc' := 27) (ty := .int) rfl dX10_walks_24 wf_X10_128 wp_X10_10 rfl h (fun w6 h => ?_)
  refine gj_aload_n C (pc' := 28) (i := 0) rfl dX10_walks_27 rfl rfl ?_
  refine gj_iconst C (pc' := 29) (v := 1) rfl dX10_walks_28 (by decide) ?_
  refine gj_putZ C (pc' := 32) (ty := .int) rfl dX10_walks_29 wf_X10_96 wp_X10_14 rfl h (fun w7 h => ?_)
  refine gj_aload_n C (pc' := 33) (i := 0) rfl dX10_walks_32 rfl rfl ?_
  refine gj_iload_n C (pc' := 34) (i := 2) rfl dX10_walks_33 rfl rfl ?_
  refine gj_putI C (pc' := 37) (ty := .int) rfl dX10_walks_34 wf_X10_113 wp_X10_11 rfl h (fun w8 h => ?_)
  refine gj_aload_n C (pc' := 38) (i := 0) rfl dX10_walks_37 rfl rfl ?_
  refine gj_iload_n C (pc' := 39) (i := 3) rfl dX10_walks_38 rfl rfl ?_
  refine gj_putI C (pc' := 42) (ty := .int) rfl dX10_walks_39 wf_X10_116 wp_X10_12 rfl h (fun w9 h => ?_)
  refine gj_aload_n C (pc' := 43) (i := 0) rfl dX10_walks_42 rfl rfl ?_
  refine gj_iload C (pc' := 45) (i := 4) rfl dX10_walks_43 rfl ?_
  refine gj_putI C (pc' := 48) (ty := .int) rfl dX10_walks_45 wf_X10_119 wp_X10_13 rfl h (fun w10 h => ?_)
  refine gj_aload_n C (pc' := 49) (i := 0) rfl dX10_walks_48 rfl rfl ?_
  refine gj_callVi C (pc' := 52) rfl dX10_walks_49 wm_X10_134 uX10_whole h (kX10_whole 100 _ _) (by omega) rfl rfl (Nat.le_of_ble_eq_true rfl) (fun v11 w12 h => ?_)
  refine gj_istore C (pc' := 54) (i := 5) (lv' := [_, _, _, _, _, _]) rfl dX10_walks_52 (by decide) rfl rfl ?_
  refine gj_aload_n C (pc' := 55) (i := 0) rfl dX10_walks_54 rfl rfl ?_
  refine gj_aload_n C (pc' := 56) (i := 0) rfl dX10_walks_55 rfl rfl ?_
  refine gj_getI C (pc' := 59) rfl dX10_walks_56 wf_X10_96 h (fun v13 h => ?_)
  refine gj_if_eq C (pc' := 62) (tgt := 77) rfl dX10_walks_59 rfl h (fun h => ?_) (fun h => ?_)
  · refine gj_drop (lv' := [none, none, none, none, none, some _]) (And.intro rfl True.intro) ?_
    exact kX10_walks_77 C h
  · refine gj_aload_n C (pc' := 63) (i := 0) rfl dX10_walks_62 rfl rfl ?_
    refine gj_getI C (pc' := 66) rfl dX10_walks_63 wf_X10_100 h (fun v14 h => ?_)
    refine gj_aload_n C (pc' := 67) (i := 0) rfl dX10_walks_66 rfl rfl ?_
    refine gj_getI C (pc' := 70) rfl dX10_walks_67 wf_X10_89 h (fun v15 h => ?_)
    refine gj_icmp_ne C (pc' := 73) (tgt := 77) rfl dX10_walks_70 rfl h (fun h => ?_) (fun h => ?_)
    · refine gj_iconst C (pc' := 74) (v := 1) rfl dX10_walks_73 (by decide) ?_
      refine gj_goto C (tgt := 78) dX10_walks_74 rfl ?_
      refine gj_drop (lv' := [none, none, none, none, none, some _]) (And.intro rfl True.intro) ?_
      exact kX10_walks_78 C h
    · refine gj_drop (lv' := [none, none, none, none, none, some _]) (And.intro rfl True.intro) ?_
      exact kX10_walks_77 C h
set_option maxHeartbeats 4000000 in
set_option maxRecDepth 100000 in
theorem kX10_lawOf_59 {p : Program} {l : Launch} {e : Env} {s : State} {m : MethodId} {args : Array Value} {below : List Frame} {meth : Method} {c : Code} {D : va_G} {ad : Nat → Nat} {tc : Nat → ClassId} {A : Nat → Prop} (C : gj_C p s m args meth c D ad tc A cX10_lawOf 6 (some .int) RX10) {r : Int32} {w1 : ab_W} {x5 : Int32} {p0 : Int32} {w : ab_W} (h : sX10_lawOf_59 x5 p0 w = some (r, w1)) : gj_G p l e (gj_R 105) s m args below meth c D ad tc A 6 (gj_Qi D ad tc A below args s r w1) 59 [none, none, none, none, none, some (.int x5)] [.int p0] w := by
  unfold sX10_lawOf_59 at h
  refine gj_iconst C (pc' := 60) (v := 0) rfl dX10_lawOf_59 (by decide) ?_
  refine gj_iload C (pc' := 62) (i := 5) rfl dX10_lawOf_60 rfl ?_
  refine gj_callSi C (pc' := 65) rfl dX10_lawOf_62 wm_X10_153 uX10_held h (kX10_held _ _ _ _) (by omega) rfl rfl (Nat.le_of_ble_eq_true rfl) (fun v1 w2 h => ?_)
  exact gj_iret C dX10_lawOf_65 h
set_option maxHeartbeats 4000000 in
set_option maxRecDepth 100000 in
theorem kX10_lawOf_12 {p : Program} {l : Launch} {e : Env} {s : State} {m : MethodId} {args : Array Value} {below : List Frame} {meth : Method} {c : Code} {D : va_G} {ad : Nat → Nat} {tc : Nat → ClassId} {A : Nat → Prop} (C : gj_C p s m args meth c D ad tc A cX10_lawOf 6 (some .int) RX10) {r : Int32} {w1 : ab_W} {x0 : Nat} {x1 : Int32} {x2 : Int32} {x3 : Int32} {x4 : Int32} {p0 : Int32} {w : ab_W} (h : sX10_lawOf_12 x0 x1 x2 x3 x4 p0 w = some (r, w1)) : gj_G p l e (gj_R 105) s m args below meth c D ad tc A 6 (gj_Qi D ad tc A below args s r w1) 12 [some (.ref x0), some (.int x1), some (.int x2), some (.int x3), some (.int x4), none] [.int p0] w := by
  unfold sX10_lawOf_12 at h
  refine gj_istore C (pc' := 14) (i := 5) (lv' := [_, _, _, _, _, _]) rfl dX10_lawOf_12 (by decide) rfl rfl ?_
  refine gj_aload_n C (pc' := 15) (i := 0) rfl dX10_lawOf_14 rfl rfl ?_
  refine gj_getR C (pc' := 18) rfl dX10_lawOf_15 wf_X10_7 h (fun v1 h => ?_)
  refine gj_iconst C (pc' := 19) (v := 5) rfl dX10_lawOf_18 (by decide) ?_
  refine gj_iload_n C (pc' := 20) (i := 1) rfl dX10_lawOf_19 rfl rfl ?_
  refine gj_iadd C (pc' := 21) rfl dX10_lawOf_20 ?_
  refine gj_iald C (pc' := 22) rfl dX10_lawOf_21 h (fun v2 h => ?_)
  refine gj_if_lt C (pc' := 25) (tgt := 41) rfl dX10_lawOf_22 rfl h (fun h => ?_) (fun h => ?_)
  · refine gj_iload_n C (pc' := 42) (i := 1) rfl dX10_lawOf_41 rfl rfl ?_
    refine gj_if_ne C (pc' := 45) (tgt := 55) rfl dX10_lawOf_42 rfl h (fun h => ?_) (fun h => ?_)
    · refine gj_bipush C (pc' := 47) (v := 9) rfl dX10_lawOf_45 (by decide) ?_
      refine gj_iload_n C (pc' := 48) (i := 2) rfl dX10_lawOf_47 rfl rfl ?_
      refine gj_isub C (pc' := 49) rfl dX10_lawOf_48 ?_
      refine gj_iload C (pc' := 51) (i := 4) rfl dX10_lawOf_49 rfl ?_
      refine gj_iadd C (pc' := 52) rfl dX10_lawOf_51 ?_
      refine gj_goto C (tgt := 59) dX10_lawOf_52 rfl ?_
      refine gj_drop (lv' := [none, none, none, none, none, some _]) (And.intro rfl True.intro) ?_
      exact kX10_lawOf_59 C h
    · refine gj_iload_n C (pc' := 56) (i := 3) rfl dX10_lawOf_55 rfl rfl ?_
      refine gj_bipush C (pc' := 58) (v := 10) rfl dX10_lawOf_56 (by decide) ?_
      refine gj_idiv C (pc' := 59) rfl dX10_lawOf_58 h (fun v3 h => ?_)
      refine gj_drop (lv' := [none, none, none, none, none, some _]) (And.intro rfl True.intro) ?_
      exact kX10_lawOf_59 C h
  · refine gj_aload_n C (pc' := 26) (i := 0) rfl dX10_lawOf_25 rfl rfl ?_
    refine gj_iload_n C (pc' := 27) (i := 1) rfl dX10_lawOf_26 rfl rfl ?_
    refine gj_iload_n C (pc' := 28) (i := 2) rfl dX10_lawOf_27 rfl rfl ?_
    refine gj_iload_n C (pc' := 29) (i := 3) rfl dX10_lawOf_28 rfl rfl ?_
    refine gj_iload C (pc' := 31) (i := 4) rfl dX10_lawOf_29 rfl ?_
    refine gj_callVi C (pc' := 34) rfl dX10_lawOf_31 wm_X10_149 uX10_walks h (kX10_walks _ _ _ _ _ _) (by omega) rfl rfl (Nat.le_of_ble_eq_true rfl) (fun v4 w5 h => ?_)
    refine gj_iconst C (pc' := 35) (v := 0) rfl dX10_lawOf_34 (by decide) ?_
    refine gj_iload C (pc' := 37) (i := 5) rfl dX10_lawOf_35 rfl ?_
    refine gj_callSi C (pc' := 40) rfl dX10_lawOf_37 wm_X10_153 uX10_held h (kX10_held _ _ _ _) (by omega) rfl rfl (Nat.le_of_ble_eq_true rfl) (fun v6 w7 h => ?_)
    exact gj_iret C dX10_lawOf_40 h
set_option maxHeartbeats 4000000 in
set_option maxRecDepth 100000 in
theorem kX10_lawOf : ∀ (x0 : Nat) (x1 : Int32) (x2 : Int32) (x3 : Int32) (x4 : Int32) (w : ab_W) (r : Int32) (w1 : ab_W), sX10_lawOf x0 x1 x2 x3 x4 w = some (r, w1) → gj_Mi yX10_lawOf cX10_lawOf 6 (some .int) 105 [.ref x0, .int x1, .int x2, .int x3, .int x4] w r w1 ∧ ab_is w 10 x0 = true := by
  intro x0 x1 x2 x3 x4 w r w1 h
  unfold sX10_lawOf at h
  obtain ⟨hi, h⟩ := ab_ite h
  refine ⟨?_, hi⟩
  refine gj_Mi_of RX10 [some (.ref x0), some (.int x1), some (.int x2), some (.int x3), some (.int x4), none] (by decide +kernel) rfl (Nat.le_of_ble_eq_true rfl) rfl (fun p l e s m args below meth c D ad tc A C => ?_)
  refine gj_iload_n C (pc' := 1) (i := 1) rfl dX10_lawOf_0 rfl rfl ?_
  refine gj_if_ne C (pc' := 4) (tgt := 9) rfl dX10_lawOf_1 rfl h (fun h => ?_) (fun h => ?_)
  · refine gj_bipush C (pc' := 6) (v := 99) rfl dX10_lawOf_4 (by decide) ?_
    refine gj_goto C (tgt := 12) dX10_lawOf_6 rfl ?_
    refine gj_drop (lv' := [some _, some _, some _, some _, some _, none]) (And.intro rfl (And.intro rfl (And.intro rfl (And.intro rfl (And.intro rfl True.intro))))) ?_
    exact kX10_lawOf_12 C h
  · refine gj_sipush C (pc' := 12) (v := 999) rfl dX10_lawOf_9 (by decide) ?_
    refine gj_drop (lv' := [some _, some _, some _, some _, some _, none]) (And.intro rfl (And.intro rfl (And.intro rfl (And.intro rfl (And.intro rfl True.intro))))) ?_
    exact kX10_lawOf_12 C h
set_option maxHeartbeats 4000000 in
set_option maxRecDepth 100000 in
theorem kX10_law : ∀ (x0 : Nat) (x1 : Int32) (x2 : Int32) (x3 : Int32) (x4 : Int32) (w : ab_W) (r : Int32) (w1 : ab_W), sX10_law x0 x1 x2 x3 x4 w = some (r, w1) → gj_Mi yX10_law cX10_law 5 (some .int) 106 [.ref x0, .int x1, .int x2, .int x3, .int x4] w r w1 ∧ ab_is w 10 x0 = true := by
  intro x0 x1 x2 x3 x4 w r w1 h
  unfold sX10_law at h
  obtain ⟨hi, h⟩ := ab_ite h
  refine ⟨?_, hi⟩
  refine gj_Mi_of RX10 [some (.ref x0), some (.int x1), some (.int x2), some (.int x3), some (.int x4)] (by decide +kernel) rfl (Nat.le_of_ble_eq_true rfl) rfl (fun p l e s m args below meth c D ad tc A C => ?_)
  refine gj_iload_n C (pc' := 1) (i := 1) rfl dX10_law_0 rfl rfl ?_
  refine gj_iconst C (pc' := 2) (v := 0) rfl dX10_law_1 (by decide) ?_
  refine gj_iconst C (pc' := 3) (v := 1) rfl dX10_law_2 (by decide) ?_
  refine gj_callSi C (pc' := 6) rfl dX10_law_3 wm_X10_47 uX10_in h (kX10_in _ _ _ _) (by omega) rfl rfl (Nat.le_of_ble_eq_true rfl) (fun v1 w2 h => ?_)
  refine gj_if_eq C (pc' := 9) (tgt := 21) rfl dX10_law_6 rfl h (fun h => ?_) (fun h => ?_)
  · refine gj_aload_n C (pc' := 22) (i := 0) rfl dX10_law_21 rfl rfl ?_
    refine gj_ldc C (pc' := 24) rfl dX10_law_22 wk_X10_51 ?_
    refine gj_callVi C (pc' := 27) rfl dX10_law_24 wm_X10_52 uX10_errs h (kX10_errs _ _ _) (by omega) rfl rfl (Nat.le_of_ble_eq_true rfl) (fun v3 w4 h => ?_)
    exact gj_iret C dX10_law_27 h
  · refine gj_aload_n C (pc' := 10) (i := 0) rfl dX10_law_9 rfl rfl ?_
    refine gj_iload_n C (pc' := 11) (i := 1) rfl dX10_law_10 rfl rfl ?_
    refine gj_iload_n C (pc' := 12) (i := 2) rfl dX10_law_11 rfl rfl ?_
    refine gj_iload_n C (pc' := 13) (i := 3) rfl dX10_law_12 rfl rfl ?_
    refine gj_iload C (pc' := 15) (i := 4) rfl dX10_law_13 rfl ?_
    refine gj_callVi C (pc' := 18) rfl dX10_law_15 wm_X10_157 uX10_lawOf h (kX10_lawOf _ _ _ _ _ _) (by omega) rfl rfl (Nat.le_of_ble_eq_true rfl) (fun v5 w6 h => ?_)
    refine gj_goto C (tgt := 27) dX10_law_18 rfl ?_
    exact gj_iret C dX10_law_27 h
set_option maxHeartbeats 4000000 in
set_option maxRecDepth 100000 in
theorem kX10_feed_40 {p : Program} {l : Launch} {e : Env} {s : State} {m : MethodId} {args : Array Value} {below : List Frame} {meth : Method} {c : Code} {D : va_G} {ad : Nat → Nat} {tc : Nat → ClassId} {A : Nat → Prop} (C : gj_C p s m args meth c D ad tc A cX10_feed 5 (some .int) RX10) {r : Int32} {w1 : ab_W} : ∀ {n : Nat} {x0 : Nat} {x1 : Int64} {x3 : Int32} {x4 : Int32} {w : ab_W}, sX10_feed_40 n x0 x1 x3 x4 w = some (r, w1) → gj_G p l e (gj_R 1) s m args below meth c D ad tc A 5 (gj_Qi D ad tc A below args s r w1) 40 [some (.ref x0), some (.long x1), none, some (.int x3), some (.int x4)] [] w := by
  intro n
  induction n with
  | zero =>
    intros
    rename_i h
    cases h
  | succ n ih =>
    intro x0 x1 x3 x4 w h
    rw [sX10_feed_40] at h
    refine gj_iload C (pc' := 42) (i := 4) rfl dX10_feed_40 rfl ?_
    refine gj_iload_n C (pc' := 43) (i := 3) rfl dX10_feed_42 rfl rfl ?_
    refine gj_icmp_ge C (pc' := 46) (tgt := 88) rfl dX10_feed_43 rfl h (fun h => ?_) (fun h => ?_)
    · refine gj_aload_n C (pc' := 47) (i := 0) rfl dX10_feed_46 rfl rfl ?_
      refine gj_getR C (pc' := 50) rfl dX10_feed_47 wf_X10_7 h (fun v1 h => ?_)
      refine gj_bipush C (pc' := 52) (v := 56) rfl dX10_feed_50 (by decide) ?_
      refine gj_aload_n C (pc' := 53) (i := 0) rfl dX10_feed_52 rfl rfl ?_
      refine gj_getR C (pc' := 56) rfl dX10_feed_53 wf_X10_7 h (fun v2 h => ?_)
      refine gj_iconst C (pc' := 57) (v := 3) rfl dX10_feed_56 (by decide) ?_
      refine gj_iald C (pc' := 58) rfl dX10_feed_57 h (fun v3 h => ?_)
      refine gj_iadd C (pc' := 59) rfl dX10_feed_58 ?_
      refine gj_lload_n C (pc' := 60) (i := 1) rfl dX10_feed_59 rfl rfl ?_
      refine gj_bipush C (pc' := 62) (v := 8) rfl dX10_feed_60 (by decide) ?_
      refine gj_iload C (pc' := 64) (i := 4) rfl dX10_feed_62 rfl ?_
      refine gj_imul C (pc' := 65) rfl dX10_feed_64 ?_
      refine gj_lshr C (pc' := 66) rfl dX10_feed_65 ?_
      refine gj_ldc2 C (pc' := 69) rfl dX10_feed_66 wk_X10_160 ?_
      refine gj_land C (pc' := 70) rfl dX10_feed_69 ?_
      refine gj_l2i C (pc' := 71) rfl dX10_feed_70 ?_
      refine gj_iast C (pc' := 72) rfl dX10_feed_71 h (fun w4 h => ?_)
      refine gj_aload_n C (pc' := 73) (i := 0) rfl dX10_feed_72 rfl rfl ?_
      refine gj_getR C (pc' := 76) rfl dX10_feed_73 wf_X10_7 h (fun v5 h => ?_)
      refine gj_iconst C (pc' := 77) (v := 3) rfl dX10_feed_76 (by decide) ?_
      refine gj_dup2 C (pc' := 78) rfl dX10_feed_77 rfl rfl ?_
      refine gj_iald C (pc' := 79) rfl dX10_feed_78 h (fun v6 h => ?_)
      refine gj_iconst C (pc' := 80) (v := 1) rfl dX10_feed_79 (by decide) ?_
      refine gj_iadd C (pc' := 81) rfl dX10_feed_80 ?_
      refine gj_iast C (pc' := 82) rfl dX10_feed_81 h (fun w7 h => ?_)
      refine gj_iinc C (pc' := 85) (i := 4) (v := _ + 1) (lv' := [_, _, _, _, _]) rfl dX10_feed_82 rfl rfl (by decide) rfl rfl ?_
      refine gj_goto C (tgt := 40) dX10_feed_85 rfl ?_
      refine gj_drop (lv' := [some _, some _, none, some _, some _]) (And.intro rfl (And.intro rfl (And.intro rfl (And.intro rfl True.intro)))) ?_
      exact ih h
    · refine gj_aload_n C (pc' := 89) (i := 0) rfl dX10_feed_88 rfl rfl ?_
      refine gj_getR C (pc' := 92) rfl dX10_feed_89 wf_X10_7 h (fun v8 h => ?_)
      refine gj_iconst C (pc' := 93) (v := 3) rfl dX10_feed_92 (by decide) ?_
      refine gj_iald C (pc' := 94) rfl dX10_feed_93 h (fun v9 h => ?_)
      exact gj_iret C dX10_feed_94 h
set_option maxHeartbeats 4000000 in
set_option maxRecDepth 100000 in
theorem kX10_feed : ∀ (x0 : Nat) (x1 : Int64) (x3 : Int32) (w : ab_W) (r : Int32) (w1 : ab_W), sX10_feed x0 x1 x3 w = some (r, w1) → gj_Mi yX10_feed cX10_feed 5 (some .int) 1 [.ref x0, .long x1, .int x3] w r w1 ∧ ab_is w 10 x0 = true := by
  intro x0 x1 x3 w r w1 h
  unfold sX10_feed at h
  obtain ⟨hi, h⟩ := ab_ite h
  refine ⟨?_, hi⟩
  refine gj_Mi_of RX10 [some (.ref x0), some (.long x1), none, some (.int x3), none] (by decide +kernel) rfl (Nat.le_of_ble_eq_true rfl) rfl (fun p l e s m args below meth c D ad tc A C => ?_)
  refine gj_iload_n C (pc' := 1) (i := 3) rfl dX10_feed_0 rfl rfl ?_
  refine gj_iconst C (pc' := 2) (v := 1) rfl dX10_feed_1 (by decide) ?_
  refine gj_bipush C (pc' := 4) (v := 8) rfl dX10_feed_2 (by decide) ?_
  refine gj_callSi C (pc' := 7) rfl dX10_feed_4 wm_X10_47 uX10_in h (kX10_in _ _ _ _) (by omega) rfl rfl (Nat.le_of_ble_eq_true rfl) (fun v1 w2 h => ?_)
  refine gj_if_ne C (pc' := 10) (tgt := 17) rfl dX10_feed_7 rfl h (fun h => ?_) (fun h => ?_)
  · refine gj_aload_n C (pc' := 11) (i := 0) rfl dX10_feed_10 rfl rfl ?_
    refine gj_ldc C (pc' := 13) rfl dX10_feed_11 wk_X10_51 ?_
    refine gj_callVi C (pc' := 16) rfl dX10_feed_13 wm_X10_52 uX10_errs h (kX10_errs _ _ _) (by omega) rfl rfl (Nat.le_of_ble_eq_true rfl) (fun v3 w4 h => ?_)
    exact gj_iret C dX10_feed_16 h
  · refine gj_aload_n C (pc' := 18) (i := 0) rfl dX10_feed_17 rfl rfl ?_
    refine gj_getR C (pc' := 21) rfl dX10_feed_18 wf_X10_7 h (fun v5 h => ?_)
    refine gj_iconst C (pc' := 22) (v := 3) rfl dX10_feed_21 (by decide) ?_
    refine gj_iald C (pc' := 23) rfl dX10_feed_22 h (fun v6 h => ?_)
    refine gj_iload_n C (pc' := 24) (i := 3) rfl dX10_feed_23 rfl rfl ?_
    refine gj_iadd C (pc' := 25) rfl dX10_feed_24 ?_
    refine gj_bipush C (pc' := 27) (v := 50) rfl dX10_feed_25 (by decide) ?_
    refine gj_icmp_le C (pc' := 30) (tgt := 37) rfl dX10_feed_27 rfl h (fun h => ?_) (fun h => ?_)
    · refine gj_aload_n C (pc' := 31) (i := 0) rfl dX10_feed_30 rfl rfl ?_
      refine gj_ldc C (pc' := 33) rfl dX10_feed_31 wk_X10_56 ?_
      refine gj_callVi C (pc' := 36) rfl dX10_feed_33 wm_X10_52 uX10_errs h (kX10_errs _ _ _) (by omega) rfl rfl (Nat.le_of_ble_eq_true rfl) (fun v7 w8 h => ?_)
      exact gj_iret C dX10_feed_36 h
    · refine gj_iconst C (pc' := 38) (v := 0) rfl dX10_feed_37 (by decide) ?_
      refine gj_istore C (pc' := 40) (i := 4) (lv' := [_, _, _, _, _]) rfl dX10_feed_38 (by decide) rfl rfl ?_
      refine gj_drop (lv' := [some _, some _, none, some _, some _]) (And.intro rfl (And.intro rfl (And.intro rfl (And.intro rfl True.intro)))) ?_
      exact kX10_feed_40 C h
set_option maxHeartbeats 4000000 in
set_option maxRecDepth 100000 in
theorem kX10_text_128 {p : Program} {l : Launch} {e : Env} {s : State} {m : MethodId} {args : Array Value} {below : List Frame} {meth : Method} {c : Code} {D : va_G} {ad : Nat → Nat} {tc : Nat → ClassId} {A : Nat → Prop} (C : gj_C p s m args meth c D ad tc A cX10_text 5 (some .int) RX10) {r : Int32} {w1 : ab_W} {x0 : Nat} {x3 : Int32} {x4 : Int32} {w : ab_W} (h : sX10_text_128 x0 x3 x4 w = some (r, w1)) : gj_G p l e (gj_R 105) s m args below meth c D ad tc A 5 (gj_Qi D ad tc A below args s r w1) 128 [some (.ref x0), none, none, some (.int x3), some (.int x4)] [] w := by
  unfold sX10_text_128 at h
  refine gj_aload_n C (pc' := 129) (i := 0) rfl dX10_text_128 rfl rfl ?_
  refine gj_getR C (pc' := 132) rfl dX10_text_129 wf_X10_7 h (fun v1 h => ?_)
  refine gj_iconst C (pc' := 133) (v := 3) rfl dX10_text_132 (by decide) ?_
  refine gj_iconst C (pc' := 134) (v := 0) rfl dX10_text_133 (by decide) ?_
  refine gj_iast C (pc' := 135) rfl dX10_text_134 h (fun w2 h => ?_)
  refine gj_iload_n C (pc' := 136) (i := 3) rfl dX10_text_135 rfl rfl ?_
  refine gj_if_eq C (pc' := 139) (tgt := 143) rfl dX10_text_136 rfl h (fun h => ?_) (fun h => ?_)
  · refine gj_bipush C (pc' := 145) (v := (-10)) rfl dX10_text_143 (by decide) ?_
    refine gj_iload C (pc' := 147) (i := 4) rfl dX10_text_145 rfl ?_
    refine gj_isub C (pc' := 148) rfl dX10_text_147 ?_
    exact gj_iret C dX10_text_148 h
  · refine gj_iconst C (pc' := 140) (v := 1) rfl dX10_text_139 (by decide) ?_
    refine gj_goto C (tgt := 148) dX10_text_140 rfl ?_
    exact gj_iret C dX10_text_148 h
set_option maxHeartbeats 4000000 in
set_option maxRecDepth 100000 in
theorem kX10_text_105 {p : Program} {l : Launch} {e : Env} {s : State} {m : MethodId} {args : Array Value} {below : List Frame} {meth : Method} {c : Code} {D : va_G} {ad : Nat → Nat} {tc : Nat → ClassId} {A : Nat → Prop} (C : gj_C p s m args meth c D ad tc A cX10_text 5 (some .int) RX10) {r : Int32} {w1 : ab_W} {x0 : Nat} {p0 : Int32} {w : ab_W} (h : sX10_text_105 x0 p0 w = some (r, w1)) : gj_G p l e (gj_R 105) s m args below meth c D ad tc A 5 (gj_Qi D ad tc A below args s r w1) 105 [some (.ref x0), none, none, none, none] [.int p0] w := by
  unfold sX10_text_105 at h
  refine gj_istore_n C (pc' := 106) (i := 3) (lv' := [_, _, _, _, _]) rfl dX10_text_105 rfl (by decide) rfl rfl ?_
  refine gj_aload_n C (pc' := 107) (i := 0) rfl dX10_text_106 rfl rfl ?_
  refine gj_getI C (pc' := 110) rfl dX10_text_107 wf_X10_100 h (fun v1 h => ?_)
  refine gj_istore C (pc' := 112) (i := 4) (lv' := [_, _, _, _, _]) rfl dX10_text_110 (by decide) rfl rfl ?_
  refine gj_iload_n C (pc' := 113) (i := 3) rfl dX10_text_112 rfl rfl ?_
  refine gj_if_ne C (pc' := 116) (tgt := 128) rfl dX10_text_113 rfl h (fun h => ?_) (fun h => ?_)
  · refine gj_aload_n C (pc' := 117) (i := 0) rfl dX10_text_116 rfl rfl ?_
    refine gj_aload_n C (pc' := 118) (i := 0) rfl dX10_text_117 rfl rfl ?_
    refine gj_getR C (pc' := 121) rfl dX10_text_118 wf_X10_19 h (fun v2 h => ?_)
    refine gj_aload_n C (pc' := 122) (i := 0) rfl dX10_text_121 rfl rfl ?_
    refine gj_getR C (pc' := 125) rfl dX10_text_122 wf_X10_7 h (fun v3 h => ?_)
    refine gj_callVv C (pc' := 128) rfl dX10_text_125 wm_X10_162 uX10_moveAll h (kX10_moveAll _ _ _ _) (by omega) rfl rfl (Nat.le_of_ble_eq_true rfl) (fun w4 h => ?_)
    refine gj_drop (lv' := [some _, none, none, some _, some _]) (And.intro rfl (And.intro rfl (And.intro rfl True.intro))) ?_
    exact kX10_text_128 C h
  · refine gj_drop (lv' := [some _, none, none, some _, some _]) (And.intro rfl (And.intro rfl (And.intro rfl True.intro))) ?_
    exact kX10_text_128 C h
set_option maxHeartbeats 4000000 in
set_option maxRecDepth 100000 in
theorem kX10_text_104 {p : Program} {l : Launch} {e : Env} {s : State} {m : MethodId} {args : Array Value} {below : List Frame} {meth : Method} {c : Code} {D : va_G} {ad : Nat → Nat} {tc : Nat → ClassId} {A : Nat → Prop} (C : gj_C p s m args meth c D ad tc A cX10_text 5 (some .int) RX10) {r : Int32} {w1 : ab_W} {x0 : Nat} {w : ab_W} (h : sX10_text_104 x0 w = some (r, w1)) : gj_G p l e (gj_R 105) s m args below meth c D ad tc A 5 (gj_Qi D ad tc A below args s r w1) 104 [some (.ref x0), none, none, none, none] [] w := by
  unfold sX10_text_104 at h
  refine gj_iconst C (pc' := 105) (v := 0) rfl dX10_text_104 (by decide) ?_
  refine gj_drop (lv' := [some _, none, none, none, none]) (And.intro rfl True.intro) ?_
  exact kX10_text_105 C h
set_option maxHeartbeats 4000000 in
set_option maxRecDepth 100000 in
theorem kX10_text_30 {p : Program} {l : Launch} {e : Env} {s : State} {m : MethodId} {args : Array Value} {below : List Frame} {meth : Method} {c : Code} {D : va_G} {ad : Nat → Nat} {tc : Nat → ClassId} {A : Nat → Prop} (C : gj_C p s m args meth c D ad tc A cX10_text 5 (some .int) RX10) {r : Int32} {w1 : ab_W} : ∀ {n : Nat} {x0 : Nat} {x1 : Int32} {x2 : Int32} {w : ab_W}, sX10_text_30 n x0 x1 x2 w = some (r, w1) → gj_G p l e (gj_R 105) s m args below meth c D ad tc A 5 (gj_Qi D ad tc A below args s r w1) 30 [some (.ref x0), some (.int x1), some (.int x2), none, none] [] w := by
  intro n
  induction n with
  | zero =>
    intros
    rename_i h
    cases h
  | succ n ih =>
    intro x0 x1 x2 w h
    rw [sX10_text_30] at h
    refine gj_iload_n C (pc' := 31) (i := 2) rfl dX10_text_30 rfl rfl ?_
    refine gj_bipush C (pc' := 33) (v := 50) rfl dX10_text_31 (by decide) ?_
    refine gj_icmp_ge C (pc' := 36) (tgt := 65) rfl dX10_text_33 rfl h (fun h => ?_) (fun h => ?_)
    · refine gj_aload_n C (pc' := 37) (i := 0) rfl dX10_text_36 rfl rfl ?_
      refine gj_getR C (pc' := 40) rfl dX10_text_37 wf_X10_7 h (fun v1 h => ?_)
      refine gj_bipush C (pc' := 42) (v := 126) rfl dX10_text_40 (by decide) ?_
      refine gj_bipush C (pc' := 44) (v := 50) rfl dX10_text_42 (by decide) ?_
      refine gj_iload_n C (pc' := 45) (i := 1) rfl dX10_text_44 rfl rfl ?_
      refine gj_imul C (pc' := 46) rfl dX10_text_45 ?_
      refine gj_iadd C (pc' := 47) rfl dX10_text_46 ?_
      refine gj_iload_n C (pc' := 48) (i := 2) rfl dX10_text_47 rfl rfl ?_
      refine gj_iadd C (pc' := 49) rfl dX10_text_48 ?_
      refine gj_aload_n C (pc' := 50) (i := 0) rfl dX10_text_49 rfl rfl ?_
      refine gj_getR C (pc' := 53) rfl dX10_text_50 wf_X10_7 h (fun v2 h => ?_)
      refine gj_bipush C (pc' := 55) (v := 56) rfl dX10_text_53 (by decide) ?_
      refine gj_iload_n C (pc' := 56) (i := 2) rfl dX10_text_55 rfl rfl ?_
      refine gj_iadd C (pc' := 57) rfl dX10_text_56 ?_
      refine gj_iald C (pc' := 58) rfl dX10_text_57 h (fun v3 h => ?_)
      refine gj_iast C (pc' := 59) rfl dX10_text_58 h (fun w4 h => ?_)
      refine gj_iinc C (pc' := 62) (i := 2) (v := _ + 1) (lv' := [_, _, _, _, _]) rfl dX10_text_59 rfl rfl (by decide) rfl rfl ?_
      refine gj_goto C (tgt := 30) dX10_text_62 rfl ?_
      refine gj_drop (lv' := [some _, some _, some _, none, none]) (And.intro rfl (And.intro rfl (And.intro rfl True.intro))) ?_
      exact ih h
    · refine gj_aload_n C (pc' := 66) (i := 0) rfl dX10_text_65 rfl rfl ?_
      refine gj_getR C (pc' := 69) rfl dX10_text_66 wf_X10_7 h (fun v5 h => ?_)
      refine gj_iconst C (pc' := 70) (v := 5) rfl dX10_text_69 (by decide) ?_
      refine gj_iload_n C (pc' := 71) (i := 1) rfl dX10_text_70 rfl rfl ?_
      refine gj_iadd C (pc' := 72) rfl dX10_text_71 ?_
      refine gj_aload_n C (pc' := 73) (i := 0) rfl dX10_text_72 rfl rfl ?_
      refine gj_getR C (pc' := 76) rfl dX10_text_73 wf_X10_7 h (fun v6 h => ?_)
      refine gj_iconst C (pc' := 77) (v := 3) rfl dX10_text_76 (by decide) ?_
      refine gj_iald C (pc' := 78) rfl dX10_text_77 h (fun v7 h => ?_)
      refine gj_iast C (pc' := 79) rfl dX10_text_78 h (fun w8 h => ?_)
      refine gj_aload_n C (pc' := 80) (i := 0) rfl dX10_text_79 rfl rfl ?_
      refine gj_iload_n C (pc' := 81) (i := 1) rfl dX10_text_80 rfl rfl ?_
      refine gj_iconst C (pc' := 82) (v := 1) rfl dX10_text_81 (by decide) ?_
      refine gj_iconst C (pc' := 83) (v := 1) rfl dX10_text_82 (by decide) ?_
      refine gj_iconst C (pc' := 84) (v := 1) rfl dX10_text_83 (by decide) ?_
      refine gj_callVi C (pc' := 87) rfl dX10_text_84 wm_X10_149 uX10_walks h (kX10_walks _ _ _ _ _ _) (by omega) rfl rfl (Nat.le_of_ble_eq_true rfl) (fun v9 w10 h => ?_)
      refine gj_istore_n C (pc' := 88) (i := 2) (lv' := [_, _, _, _, _]) rfl dX10_text_87 rfl (by decide) rfl rfl ?_
      refine gj_aload_n C (pc' := 89) (i := 0) rfl dX10_text_88 rfl rfl ?_
      refine gj_getI C (pc' := 92) rfl dX10_text_89 wf_X10_96 h (fun v11 h => ?_)
      refine gj_if_eq C (pc' := 95) (tgt := 104) rfl dX10_text_92 rfl h (fun h => ?_) (fun h => ?_)
      · refine gj_drop (lv' := [some _, none, none, none, none]) (And.intro rfl True.intro) ?_
        exact kX10_text_104 C h
      · refine gj_iload_n C (pc' := 96) (i := 2) rfl dX10_text_95 rfl rfl ?_
        refine gj_iload_n C (pc' := 97) (i := 2) rfl dX10_text_96 rfl rfl ?_
        refine gj_icmp_ne C (pc' := 100) (tgt := 104) rfl dX10_text_97 rfl h (fun h => ?_) (fun h => ?_)
        · refine gj_iconst C (pc' := 101) (v := 1) rfl dX10_text_100 (by decide) ?_
          refine gj_goto C (tgt := 105) dX10_text_101 rfl ?_
          refine gj_drop (lv' := [some _, none, none, none, none]) (And.intro rfl True.intro) ?_
          exact kX10_text_105 C h
        · refine gj_drop (lv' := [some _, none, none, none, none]) (And.intro rfl True.intro) ?_
          exact kX10_text_104 C h
set_option maxHeartbeats 4000000 in
set_option maxRecDepth 100000 in
theorem kX10_text : ∀ (x0 : Nat) (x1 : Int32) (w : ab_W) (r : Int32) (w1 : ab_W), sX10_text x0 x1 w = some (r, w1) → gj_Mi yX10_text cX10_text 5 (some .int) 105 [.ref x0, .int x1] w r w1 ∧ ab_is w 10 x0 = true := by
  intro x0 x1 w r w1 h
  unfold sX10_text at h
  obtain ⟨hi, h⟩ := ab_ite h
  refine ⟨?_, hi⟩
  refine gj_Mi_of RX10 [some (.ref x0), some (.int x1), none, none, none] (by decide +kernel) rfl (Nat.le_of_ble_eq_true rfl) rfl (fun p l e s m args below meth c D ad tc A C => ?_)
  refine gj_iload_n C (pc' := 1) (i := 1) rfl dX10_text_0 rfl rfl ?_
  refine gj_iconst C (pc' := 2) (v := 0) rfl dX10_text_1 (by decide) ?_
  refine gj_iconst C (pc' := 3) (v := 1) rfl dX10_text_2 (by decide) ?_
  refine gj_callSi C (pc' := 6) rfl dX10_text_3 wm_X10_47 uX10_in h (kX10_in _ _ _ _) (by omega) rfl rfl (Nat.le_of_ble_eq_true rfl) (fun v1 w2 h => ?_)
  refine gj_if_ne C (pc' := 9) (tgt := 16) rfl dX10_text_6 rfl h (fun h => ?_) (fun h => ?_)
  · refine gj_aload_n C (pc' := 10) (i := 0) rfl dX10_text_9 rfl rfl ?_
    refine gj_ldc C (pc' := 12) rfl dX10_text_10 wk_X10_51 ?_
    refine gj_callVi C (pc' := 15) rfl dX10_text_12 wm_X10_52 uX10_errs h (kX10_errs _ _ _) (by omega) rfl rfl (Nat.le_of_ble_eq_true rfl) (fun v3 w4 h => ?_)
    exact gj_iret C dX10_text_15 h
  · refine gj_aload_n C (pc' := 17) (i := 0) rfl dX10_text_16 rfl rfl ?_
    refine gj_aload_n C (pc' := 18) (i := 0) rfl dX10_text_17 rfl rfl ?_
    refine gj_getR C (pc' := 21) rfl dX10_text_18 wf_X10_7 h (fun v5 h => ?_)
    refine gj_aload_n C (pc' := 22) (i := 0) rfl dX10_text_21 rfl rfl ?_
    refine gj_getR C (pc' := 25) rfl dX10_text_22 wf_X10_19 h (fun v6 h => ?_)
    refine gj_callVv C (pc' := 28) rfl dX10_text_25 wm_X10_162 uX10_moveAll h (kX10_moveAll _ _ _ _) (by omega) rfl rfl (Nat.le_of_ble_eq_true rfl) (fun w7 h => ?_)
    refine gj_iconst C (pc' := 29) (v := 0) rfl dX10_text_28 (by decide) ?_
    refine gj_istore_n C (pc' := 30) (i := 2) (lv' := [_, _, _, _, _]) rfl dX10_text_29 rfl (by decide) rfl rfl ?_
    refine gj_drop (lv' := [some _, some _, some _, none, none]) (And.intro rfl (And.intro rfl (And.intro rfl True.intro))) ?_
    exact kX10_text_30 C h
set_option maxHeartbeats 4000000 in
set_option maxRecDepth 100000 in
theorem kX10_goes : ∀ (x0 : Nat) (x1 : Int32) (w : ab_W) (r : Int32) (w1 : ab_W), sX10_goes x0 x1 w = some (r, w1) → gj_Mi yX10_goes cX10_goes 5 (some .int) 106 [.ref x0, .int x1] w r w1 ∧ ab_is w 10 x0 = true := by
  intro x0 x1 w r w1 h
  unfold sX10_goes at h
  obtain ⟨hi, h⟩ := ab_ite h
  refine ⟨?_, hi⟩
  refine gj_Mi_of RX10 [some (.ref x0), some (.int x1), none, none, none] (by decide +kernel) rfl (Nat.le_of_ble_eq_true rfl) rfl (fun p l e s m args below meth c D ad tc A C => ?_)
  refine gj_aload_n C (pc' := 1) (i := 0) rfl dX10_goes_0 rfl rfl ?_
  refine gj_aload_n C (pc' := 2) (i := 0) rfl dX10_goes_1 rfl rfl ?_
  refine gj_iload_n C (pc' := 3) (i := 1) rfl dX10_goes_2 rfl rfl ?_
  refine gj_iconst C (pc' := 4) (v := 3) rfl dX10_goes_3 (by decide) ?_
  refine gj_callVi C (pc' := 7) rfl dX10_goes_4 wm_X10_65 uX10_its h (kX10_its _ _ _ _) (by omega) rfl rfl (Nat.le_of_ble_eq_true rfl) (fun v1 w2 h => ?_)
  refine gj_callVi C (pc' := 10) rfl dX10_goes_7 wm_X10_69 uX10_wide h (kX10_wide _ _ _) (by omega) rfl rfl (Nat.le_of_ble_eq_true rfl) (fun v3 w4 h => ?_)
  refine gj_istore_n C (pc' := 11) (i := 2) (lv' := [_, _, _, _, _]) rfl dX10_goes_10 rfl (by decide) rfl rfl ?_
  refine gj_aload_n C (pc' := 12) (i := 0) rfl dX10_goes_11 rfl rfl ?_
  refine gj_aload_n C (pc' := 13) (i := 0) rfl dX10_goes_12 rfl rfl ?_
  refine gj_iload_n C (pc' := 14) (i := 1) rfl dX10_goes_13 rfl rfl ?_
  refine gj_iconst C (pc' := 15) (v := 3) rfl dX10_goes_14 (by decide) ?_
  refine gj_callVi C (pc' := 18) rfl dX10_goes_15 wm_X10_65 uX10_its h (kX10_its _ _ _ _) (by omega) rfl rfl (Nat.le_of_ble_eq_true rfl) (fun v5 w6 h => ?_)
  refine gj_callVi C (pc' := 21) rfl dX10_goes_18 wm_X10_72 uX10_thick h (kX10_thick _ _ _) (by omega) rfl rfl (Nat.le_of_ble_eq_true rfl) (fun v7 w8 h => ?_)
  refine gj_istore_n C (pc' := 22) (i := 3) (lv' := [_, _, _, _, _]) rfl dX10_goes_21 rfl (by decide) rfl rfl ?_
  refine gj_aload_n C (pc' := 23) (i := 0) rfl dX10_goes_22 rfl rfl ?_
  refine gj_iconst C (pc' := 24) (v := 0) rfl dX10_goes_23 (by decide) ?_
  refine gj_iload_n C (pc' := 25) (i := 2) rfl dX10_goes_24 rfl rfl ?_
  refine gj_iload_n C (pc' := 26) (i := 3) rfl dX10_goes_25 rfl rfl ?_
  refine gj_aload_n C (pc' := 27) (i := 0) rfl dX10_goes_26 rfl rfl ?_
  refine gj_getR C (pc' := 30) rfl dX10_goes_27 wf_X10_7 h (fun v9 h => ?_)
  refine gj_bipush C (pc' := 32) (v := 7) rfl dX10_goes_30 (by decide) ?_
  refine gj_iald C (pc' := 33) rfl dX10_goes_32 h (fun v10 h => ?_)
  refine gj_callVi C (pc' := 36) rfl dX10_goes_33 wm_X10_157 uX10_lawOf h (kX10_lawOf _ _ _ _ _ _) (by omega) rfl rfl (Nat.le_of_ble_eq_true rfl) (fun v11 w12 h => ?_)
  refine gj_istore C (pc' := 38) (i := 4) (lv' := [_, _, _, _, _]) rfl dX10_goes_36 (by decide) rfl rfl ?_
  refine gj_aload_n C (pc' := 39) (i := 0) rfl dX10_goes_38 rfl rfl ?_
  refine gj_iload_n C (pc' := 40) (i := 1) rfl dX10_goes_39 rfl rfl ?_
  refine gj_iconst C (pc' := 41) (v := 0) rfl dX10_goes_40 (by decide) ?_
  refine gj_callVi C (pc' := 44) rfl dX10_goes_41 wm_X10_65 uX10_its h (kX10_its _ _ _ _) (by omega) rfl rfl (Nat.le_of_ble_eq_true rfl) (fun v13 w14 h => ?_)
  refine gj_tab C (tgt := 84) dX10_goes_44 1 0 (by decide) (by decide) rfl (by decide) h (fun h => ?_) (fun n44_0 h => ?_)
  · refine gj_iconst C (pc' := 85) (v := 2) rfl dX10_goes_84 (by decide) ?_
    refine gj_iload C (pc' := 87) (i := 4) rfl dX10_goes_85 rfl ?_
    refine gj_imul C (pc' := 88) rfl dX10_goes_87 ?_
    exact gj_iret C dX10_goes_88 h
  refine gj_tab C (tgt := 89) dX10_goes_44 2 1 (by decide) (by decide) rfl (by decide) h (fun h => ?_) (fun n44_1 h => ?_)
  · refine gj_iload C (pc' := 91) (i := 4) rfl dX10_goes_89 rfl ?_
    refine gj_iload_n C (pc' := 92) (i := 2) rfl dX10_goes_91 rfl rfl ?_
    refine gj_iadd C (pc' := 93) rfl dX10_goes_92 ?_
    exact gj_iret C dX10_goes_93 h
  refine gj_tab C (tgt := 114) dX10_goes_44 3 2 (by decide) (by decide) rfl (by decide) h (fun h => ?_) (fun n44_2 h => ?_)
  · refine gj_iload C (pc' := 116) (i := 4) rfl dX10_goes_114 rfl ?_
    refine gj_iload_n C (pc' := 117) (i := 3) rfl dX10_goes_116 rfl rfl ?_
    refine gj_icmp_le C (pc' := 120) (tgt := 127) rfl dX10_goes_117 rfl h (fun h => ?_) (fun h => ?_)
    · refine gj_iload C (pc' := 122) (i := 4) rfl dX10_goes_120 rfl ?_
      refine gj_iload_n C (pc' := 123) (i := 3) rfl dX10_goes_122 rfl rfl ?_
      refine gj_isub C (pc' := 124) rfl dX10_goes_123 ?_
      refine gj_goto C (tgt := 128) dX10_goes_124 rfl ?_
      exact gj_iret C dX10_goes_128 h
    · refine gj_iconst C (pc' := 128) (v := 0) rfl dX10_goes_127 (by decide) ?_
      exact gj_iret C dX10_goes_128 h
  refine gj_tab C (tgt := 84) dX10_goes_44 4 3 (by decide) (by decide) rfl (by decide) h (fun h => ?_) (fun n44_3 h => ?_)
  · refine gj_iconst C (pc' := 85) (v := 2) rfl dX10_goes_84 (by decide) ?_
    refine gj_iload C (pc' := 87) (i := 4) rfl dX10_goes_85 rfl ?_
    refine gj_imul C (pc' := 88) rfl dX10_goes_87 ?_
    exact gj_iret C dX10_goes_88 h
  refine gj_tab C (tgt := 94) dX10_goes_44 5 4 (by decide) (by decide) rfl (by decide) h (fun h => ?_) (fun n44_4 h => ?_)
  · refine gj_aload_n C (pc' := 95) (i := 0) rfl dX10_goes_94 rfl rfl ?_
    refine gj_getR C (pc' := 98) rfl dX10_goes_95 wf_X10_7 h (fun v15 h => ?_)
    refine gj_iconst C (pc' := 99) (v := 0) rfl dX10_goes_98 (by decide) ?_
    refine gj_iald C (pc' := 100) rfl dX10_goes_99 h (fun v16 h => ?_)
    refine gj_iconst C (pc' := 101) (v := 5) rfl dX10_goes_100 (by decide) ?_
    refine gj_irem C (pc' := 102) rfl dX10_goes_101 h (fun v17 h => ?_)
    refine gj_if_ne C (pc' := 105) (tgt := 109) rfl dX10_goes_102 rfl h (fun h => ?_) (fun h => ?_)
    · refine gj_iconst C (pc' := 106) (v := 0) rfl dX10_goes_105 (by decide) ?_
      refine gj_goto C (tgt := 113) dX10_goes_106 rfl ?_
      exact gj_iret C dX10_goes_113 h
    · refine gj_iload C (pc' := 111) (i := 4) rfl dX10_goes_109 rfl ?_
      refine gj_iload_n C (pc' := 112) (i := 2) rfl dX10_goes_111 rfl rfl ?_
      refine gj_iadd C (pc' := 113) rfl dX10_goes_112 ?_
      exact gj_iret C dX10_goes_113 h
  refine gj_tab C (tgt := 129) dX10_goes_44 6 5 (by decide) (by decide) rfl (by decide) h (fun h => ?_) (fun n44_5 h => ?_)
  · refine gj_iload C (pc' := 131) (i := 4) rfl dX10_goes_129 rfl ?_
    refine gj_iconst C (pc' := 132) (v := 2) rfl dX10_goes_131 (by decide) ?_
    refine gj_idiv C (pc' := 133) rfl dX10_goes_132 h (fun v18 h => ?_)
    exact gj_iret C dX10_goes_133 h
  refine gj_tabD C (tgt := 134) dX10_goes_44 (by decide) (gj_tout _ 1 6 (fun j hj => match j, hj with | 0, _ => lv_neT n44_0 (by decide) | 1, _ => lv_neT n44_1 (by decide) | 2, _ => lv_neT n44_2 (by decide) | 3, _ => lv_neT n44_3 (by decide) | 4, _ => lv_neT n44_4 (by decide) | 5, _ => lv_neT n44_5 (by decide) | j + 6, hj => absurd hj (by omega))) ?_
  refine gj_iload C (pc' := 136) (i := 4) rfl dX10_goes_134 rfl ?_
  exact gj_iret C dX10_goes_136 h
