set_option maxHeartbeats 4000000 in
set_option maxRecDepth 100000 in
theorem kX10_check_80 {p : Program} {l : Launch} {e : Env} {s : State} {m : MethodId} {args : Array Value} {below : List Frame} {meth : Method} {c : Code} {D : va_G} {ad : Nat → Nat} {tc : Nat → ClassId} {A : Nat → Prop} (C : gj_C p s m args meth c D ad tc A cX10_check 4 (some .int) RX10) {r : Int32} {w1 : ab_W} {x0 : Nat} {x2 : Int32} {x3 : Int32} {w : ab_W} (h : sX10_check_80 x0 x2 x3 w = some (r, w1)) : gj_G p l e (gj_R 108) s m args below meth c D ad tc A 4 (gj_Qi D ad tc A below args s r w1) 80 [some (.ref x0), none, some (.int x2), some (.int x3)] [] w := by
  unfold sX10_check_80 at h
  refine gj_aload_n C (pc' := 81) (i := 0) rfl dX10_check_80 rfl rfl ?_
  refine gj_aload_n C (pc' := 82) (i := 0) rfl dX10_check_81 rfl rfl ?_
  refine gj_getR C (pc' := 85) rfl dX10_check_82 wf_X10_16 h (fun v1 h => ?_)
  refine gj_aload_n C (pc' := 86) (i := 0) rfl dX10_check_85 rfl rfl ?_
  refine gj_getR C (pc' := 89) rfl dX10_check_86 wf_X10_7 h (fun v2 h => ?_)
  refine gj_callVv C (pc' := 92) rfl dX10_check_89 wm_X10_162 uX10_moveAll h (kX10_moveAll _ _ _ _) (by omega) rfl rfl (Nat.le_of_ble_eq_true rfl) (fun w3 h => ?_)
  refine gj_iload_n C (pc' := 93) (i := 3) rfl dX10_check_92 rfl rfl ?_
  refine gj_if_eq C (pc' := 96) (tgt := 100) rfl dX10_check_93 rfl h (fun h => ?_) (fun h => ?_)
  · refine gj_iconst C (pc' := 101) (v := 1) rfl dX10_check_100 (by decide) ?_
    refine gj_iload_n C (pc' := 102) (i := 2) rfl dX10_check_101 rfl rfl ?_
    refine gj_iadd C (pc' := 103) rfl dX10_check_102 ?_
    exact gj_iret C dX10_check_103 h
  · refine gj_iconst C (pc' := 97) (v := 0) rfl dX10_check_96 (by decide) ?_
    refine gj_goto C (tgt := 103) dX10_check_97 rfl ?_
    exact gj_iret C dX10_check_103 h
set_option maxHeartbeats 4000000 in
set_option maxRecDepth 100000 in
theorem kX10_check_75 {p : Program} {l : Launch} {e : Env} {s : State} {m : MethodId} {args : Array Value} {below : List Frame} {meth : Method} {c : Code} {D : va_G} {ad : Nat → Nat} {tc : Nat → ClassId} {A : Nat → Prop} (C : gj_C p s m args meth c D ad tc A cX10_check 4 (some .int) RX10) {r : Int32} {w1 : ab_W} {k30 : Nat → Int32 → Int32 → Int32 → ab_W → Option (Int32 × ab_W)} (hk30 : ∀ {x0 : Nat} {x1 : Int32} {x2 : Int32} {x3 : Int32} {w : ab_W}, k30 x0 x1 x2 x3 w = some (r, w1) → gj_G p l e (gj_R 108) s m args below meth c D ad tc A 4 (gj_Qi D ad tc A below args s r w1) 30 [some (.ref x0), some (.int x1), some (.int x2), some (.int x3)] [] w) {x0 : Nat} {x1 : Int32} {x3 : Int32} {p0 : Int32} {p1 : Int32} {w : ab_W} (h : sX10_check_75 k30 x0 x1 x3 p0 p1 w = some (r, w1)) : gj_G p l e (gj_R 108) s m args below meth c D ad tc A 4 (gj_Qi D ad tc A below args s r w1) 75 [some (.ref x0), some (.int x1), none, some (.int x3)] [.int p1, .int p0] w := by
  unfold sX10_check_75 at h
  refine gj_iadd C (pc' := 76) rfl dX10_check_75 ?_
  refine gj_istore_n C (pc' := 77) (i := 2) (lv' := [_, _, _, _]) rfl dX10_check_76 rfl (by decide) rfl rfl ?_
  refine gj_goto C (tgt := 30) dX10_check_77 rfl ?_
  refine gj_drop (lv' := [some _, some _, some _, some _]) (And.intro rfl (And.intro rfl (And.intro rfl (And.intro rfl True.intro)))) ?_
  exact hk30 h
set_option maxHeartbeats 4000000 in
set_option maxRecDepth 100000 in
theorem kX10_check_64 {p : Program} {l : Launch} {e : Env} {s : State} {m : MethodId} {args : Array Value} {below : List Frame} {meth : Method} {c : Code} {D : va_G} {ad : Nat → Nat} {tc : Nat → ClassId} {A : Nat → Prop} (C : gj_C p s m args meth c D ad tc A cX10_check 4 (some .int) RX10) {r : Int32} {w1 : ab_W} {k30 : Nat → Int32 → Int32 → Int32 → ab_W → Option (Int32 × ab_W)} (hk30 : ∀ {x0 : Nat} {x1 : Int32} {x2 : Int32} {x3 : Int32} {w : ab_W}, k30 x0 x1 x2 x3 w = some (r, w1) → gj_G p l e (gj_R 108) s m args below meth c D ad tc A 4 (gj_Qi D ad tc A below args s r w1) 30 [some (.ref x0), some (.int x1), some (.int x2), some (.int x3)] [] w) {x0 : Nat} {x1 : Int32} {x2 : Int32} {p0 : Int32} {w : ab_W} (h : sX10_check_64 k30 x0 x1 x2 p0 w = some (r, w1)) : gj_G p l e (gj_R 108) s m args below meth c D ad tc A 4 (gj_Qi D ad tc A below args s r w1) 64 [some (.ref x0), some (.int x1), some (.int x2), none] [.int p0] w := by
  unfold sX10_check_64 at h
  refine gj_istore_n C (pc' := 65) (i := 3) (lv' := [_, _, _, _]) rfl dX10_check_64 rfl (by decide) rfl rfl ?_
  refine gj_iload_n C (pc' := 66) (i := 2) rfl dX10_check_65 rfl rfl ?_
  refine gj_iload_n C (pc' := 67) (i := 3) rfl dX10_check_66 rfl rfl ?_
  refine gj_if_eq C (pc' := 70) (tgt := 74) rfl dX10_check_67 rfl h (fun h => ?_) (fun h => ?_)
  · refine gj_iconst C (pc' := 75) (v := 0) rfl dX10_check_74 (by decide) ?_
    refine gj_drop (lv' := [some _, some _, none, some _]) (And.intro rfl (And.intro rfl (And.intro rfl True.intro))) ?_
    exact kX10_check_75 C (fun h => hk30 h) h
  · refine gj_iconst C (pc' := 71) (v := 1) rfl dX10_check_70 (by decide) ?_
    refine gj_goto C (tgt := 75) dX10_check_71 rfl ?_
    refine gj_drop (lv' := [some _, some _, none, some _]) (And.intro rfl (And.intro rfl (And.intro rfl True.intro))) ?_
    exact kX10_check_75 C (fun h => hk30 h) h
set_option maxHeartbeats 4000000 in
set_option maxRecDepth 100000 in
theorem kX10_check_30 {p : Program} {l : Launch} {e : Env} {s : State} {m : MethodId} {args : Array Value} {below : List Frame} {meth : Method} {c : Code} {D : va_G} {ad : Nat → Nat} {tc : Nat → ClassId} {A : Nat → Prop} (C : gj_C p s m args meth c D ad tc A cX10_check 4 (some .int) RX10) {r : Int32} {w1 : ab_W} : ∀ {n : Nat} {x0 : Nat} {x1 : Int32} {x2 : Int32} {x3 : Int32} {w : ab_W}, sX10_check_30 n x0 x1 x2 x3 w = some (r, w1) → gj_G p l e (gj_R 108) s m args below meth c D ad tc A 4 (gj_Qi D ad tc A below args s r w1) 30 [some (.ref x0), some (.int x1), some (.int x2), some (.int x3)] [] w := by
  intro n
  induction n with
  | zero =>
    intros
    rename_i h
    cases h
  | succ n ih =>
    intro x0 x1 x2 x3 w h
    rw [sX10_check_30] at h
    refine gj_iload_n C (pc' := 31) (i := 2) rfl dX10_check_30 rfl rfl ?_
    refine gj_iload_n C (pc' := 32) (i := 1) rfl dX10_check_31 rfl rfl ?_
    refine gj_icmp_ge C (pc' := 35) (tgt := 80) rfl dX10_check_32 rfl h (fun h => ?_) (fun h => ?_)
    · refine gj_iload_n C (pc' := 36) (i := 3) rfl dX10_check_35 rfl rfl ?_
      refine gj_if_eq C (pc' := 39) (tgt := 80) rfl dX10_check_36 rfl h (fun h => ?_) (fun h => ?_)
      · refine gj_drop (lv' := [some _, none, some _, some _]) (And.intro rfl (And.intro rfl (And.intro rfl True.intro))) ?_
        exact kX10_check_80 C h
      · refine gj_aload_n C (pc' := 40) (i := 0) rfl dX10_check_39 rfl rfl ?_
        refine gj_callVv C (pc' := 43) rfl dX10_check_40 wm_X10_190 uX10_oneDay h (kX10_oneDay _ _) (by omega) rfl rfl (Nat.le_of_ble_eq_true rfl) (fun w1 h => ?_)
        refine gj_aload_n C (pc' := 44) (i := 0) rfl dX10_check_43 rfl rfl ?_
        refine gj_callVi C (pc' := 47) rfl dX10_check_44 wm_X10_196 uX10_allDebt h (kX10_allDebt _ _) (by omega) rfl rfl (Nat.le_of_ble_eq_true rfl) (fun v2 w3 h => ?_)
        refine gj_aload_n C (pc' := 48) (i := 0) rfl dX10_check_47 rfl rfl ?_
        refine gj_getR C (pc' := 51) rfl dX10_check_48 wf_X10_7 h (fun v4 h => ?_)
        refine gj_bipush C (pc' := 53) (v := 106) rfl dX10_check_51 (by decide) ?_
        refine gj_iload_n C (pc' := 54) (i := 2) rfl dX10_check_53 rfl rfl ?_
        refine gj_iadd C (pc' := 55) rfl dX10_check_54 ?_
        refine gj_iald C (pc' := 56) rfl dX10_check_55 h (fun v5 h => ?_)
        refine gj_icmp_ne C (pc' := 59) (tgt := 63) rfl dX10_check_56 rfl h (fun h => ?_) (fun h => ?_)
        · refine gj_iconst C (pc' := 60) (v := 1) rfl dX10_check_59 (by decide) ?_
          refine gj_goto C (tgt := 64) dX10_check_60 rfl ?_
          refine gj_drop (lv' := [some _, some _, some _, none]) (And.intro rfl (And.intro rfl (And.intro rfl True.intro))) ?_
          exact kX10_check_64 C (fun h => ih h) h
        · refine gj_iconst C (pc' := 64) (v := 0) rfl dX10_check_63 (by decide) ?_
          refine gj_drop (lv' := [some _, some _, some _, none]) (And.intro rfl (And.intro rfl (And.intro rfl True.intro))) ?_
          exact kX10_check_64 C (fun h => ih h) h
    · refine gj_drop (lv' := [some _, none, some _, some _]) (And.intro rfl (And.intro rfl (And.intro rfl True.intro))) ?_
      exact kX10_check_80 C h
set_option maxHeartbeats 4000000 in
set_option maxRecDepth 100000 in
theorem kX10_check : ∀ (x0 : Nat) (w : ab_W) (r : Int32) (w1 : ab_W), sX10_check x0 w = some (r, w1) → gj_Mi yX10_check cX10_check 4 (some .int) 108 [.ref x0] w r w1 ∧ ab_is w 10 x0 = true := by
  intro x0 w r w1 h
  unfold sX10_check at h
  obtain ⟨hi, h⟩ := ab_ite h
  refine ⟨?_, hi⟩
  refine gj_Mi_of RX10 [some (.ref x0), none, none, none] (by decide +kernel) rfl (Nat.le_of_ble_eq_true rfl) rfl (fun p l e s m args below meth c D ad tc A C => ?_)
  refine gj_aload_n C (pc' := 1) (i := 0) rfl dX10_check_0 rfl rfl ?_
  refine gj_getR C (pc' := 4) rfl dX10_check_1 wf_X10_7 h (fun v1 h => ?_)
  refine gj_iconst C (pc' := 5) (v := 4) rfl dX10_check_4 (by decide) ?_
  refine gj_iald C (pc' := 6) rfl dX10_check_5 h (fun v2 h => ?_)
  refine gj_istore_n C (pc' := 7) (i := 1) (lv' := [_, _, _, _]) rfl dX10_check_6 rfl (by decide) rfl rfl ?_
  refine gj_aload_n C (pc' := 8) (i := 0) rfl dX10_check_7 rfl rfl ?_
  refine gj_getR C (pc' := 11) rfl dX10_check_8 wf_X10_7 h (fun v3 h => ?_)
  refine gj_iconst C (pc' := 12) (v := 4) rfl dX10_check_11 (by decide) ?_
  refine gj_iconst C (pc' := 13) (v := 0) rfl dX10_check_12 (by decide) ?_
  refine gj_iast C (pc' := 14) rfl dX10_check_13 h (fun w4 h => ?_)
  refine gj_aload_n C (pc' := 15) (i := 0) rfl dX10_check_14 rfl rfl ?_
  refine gj_aload_n C (pc' := 16) (i := 0) rfl dX10_check_15 rfl rfl ?_
  refine gj_getR C (pc' := 19) rfl dX10_check_16 wf_X10_7 h (fun v5 h => ?_)
  refine gj_aload_n C (pc' := 20) (i := 0) rfl dX10_check_19 rfl rfl ?_
  refine gj_getR C (pc' := 23) rfl dX10_check_20 wf_X10_16 h (fun v6 h => ?_)
  refine gj_callVv C (pc' := 26) rfl dX10_check_23 wm_X10_162 uX10_moveAll h (kX10_moveAll _ _ _ _) (by omega) rfl rfl (Nat.le_of_ble_eq_true rfl) (fun w7 h => ?_)
  refine gj_iconst C (pc' := 27) (v := 0) rfl dX10_check_26 (by decide) ?_
  refine gj_istore_n C (pc' := 28) (i := 2) (lv' := [_, _, _, _]) rfl dX10_check_27 rfl (by decide) rfl rfl ?_
  refine gj_iconst C (pc' := 29) (v := 1) rfl dX10_check_28 (by decide) ?_
  refine gj_istore_n C (pc' := 30) (i := 3) (lv' := [_, _, _, _]) rfl dX10_check_29 rfl (by decide) rfl rfl ?_
  refine gj_drop (lv' := [some _, some _, some _, some _]) (And.intro rfl (And.intro rfl (And.intro rfl (And.intro rfl True.intro)))) ?_
  exact kX10_check_30 C h
set_option maxHeartbeats 4000000 in
set_option maxRecDepth 100000 in
theorem kX10_count : ∀ (x0 : Nat) (x1 : Int32) (w : ab_W) (r : Int32) (w1 : ab_W), sX10_count x0 x1 w = some (r, w1) → gj_Mi yX10_count cX10_count 2 (some .int) 2 [.ref x0, .int x1] w r w1 ∧ ab_is w 10 x0 = true := by
  intro x0 x1 w r w1 h
  unfold sX10_count at h
  obtain ⟨hi, h⟩ := ab_ite h
  refine ⟨?_, hi⟩
  refine gj_Mi_of RX10 [some (.ref x0), some (.int x1)] (by decide +kernel) rfl (Nat.le_of_ble_eq_true rfl) rfl (fun p l e s m args below meth c D ad tc A C => ?_)
  refine gj_iload_n C (pc' := 1) (i := 1) rfl dX10_count_0 rfl rfl ?_
  refine gj_tab C (tgt := 56) dX10_count_1 0 0 (by decide) (by decide) rfl (by decide) h (fun h => ?_) (fun n1_0 h => ?_)
  · refine gj_aload_n C (pc' := 57) (i := 0) rfl dX10_count_56 rfl rfl ?_
    refine gj_getR C (pc' := 60) rfl dX10_count_57 wf_X10_7 h (fun v1 h => ?_)
    refine gj_iconst C (pc' := 61) (v := 2) rfl dX10_count_60 (by decide) ?_
    refine gj_iald C (pc' := 62) rfl dX10_count_61 h (fun v2 h => ?_)
    exact gj_iret C dX10_count_62 h
  refine gj_tab C (tgt := 63) dX10_count_1 1 1 (by decide) (by decide) rfl (by decide) h (fun h => ?_) (fun n1_1 h => ?_)
  · refine gj_aload_n C (pc' := 64) (i := 0) rfl dX10_count_63 rfl rfl ?_
    refine gj_getR C (pc' := 67) rfl dX10_count_64 wf_X10_7 h (fun v3 h => ?_)
    refine gj_iconst C (pc' := 68) (v := 0) rfl dX10_count_67 (by decide) ?_
    refine gj_iald C (pc' := 69) rfl dX10_count_68 h (fun v4 h => ?_)
    exact gj_iret C dX10_count_69 h
  refine gj_tab C (tgt := 70) dX10_count_1 2 2 (by decide) (by decide) rfl (by decide) h (fun h => ?_) (fun n1_2 h => ?_)
  · refine gj_aload_n C (pc' := 71) (i := 0) rfl dX10_count_70 rfl rfl ?_
    refine gj_getR C (pc' := 74) rfl dX10_count_71 wf_X10_7 h (fun v5 h => ?_)
    refine gj_bipush C (pc' := 76) (v := 7) rfl dX10_count_74 (by decide) ?_
    refine gj_iald C (pc' := 77) rfl dX10_count_76 h (fun v6 h => ?_)
    exact gj_iret C dX10_count_77 h
  refine gj_tab C (tgt := 78) dX10_count_1 3 3 (by decide) (by decide) rfl (by decide) h (fun h => ?_) (fun n1_3 h => ?_)
  · refine gj_aload_n C (pc' := 79) (i := 0) rfl dX10_count_78 rfl rfl ?_
    refine gj_callVi C (pc' := 82) rfl dX10_count_79 wm_X10_196 uX10_allDebt h (kX10_allDebt _ _) (by omega) rfl rfl (Nat.le_of_ble_eq_true rfl) (fun v7 w8 h => ?_)
    exact gj_iret C dX10_count_82 h
  refine gj_tab C (tgt := 83) dX10_count_1 4 4 (by decide) (by decide) rfl (by decide) h (fun h => ?_) (fun n1_4 h => ?_)
  · refine gj_aload_n C (pc' := 84) (i := 0) rfl dX10_count_83 rfl rfl ?_
    refine gj_iconst C (pc' := 85) (v := 0) rfl dX10_count_84 (by decide) ?_
    refine gj_callVi C (pc' := 88) rfl dX10_count_85 wm_X10_203 uX10_setOf h (kX10_setOf _ _ _) (by omega) rfl rfl (Nat.le_of_ble_eq_true rfl) (fun v9 w10 h => ?_)
    exact gj_iret C dX10_count_88 h
  refine gj_tab C (tgt := 89) dX10_count_1 5 5 (by decide) (by decide) rfl (by decide) h (fun h => ?_) (fun n1_5 h => ?_)
  · refine gj_aload_n C (pc' := 90) (i := 0) rfl dX10_count_89 rfl rfl ?_
    refine gj_iconst C (pc' := 91) (v := 1) rfl dX10_count_90 (by decide) ?_
    refine gj_callVi C (pc' := 94) rfl dX10_count_91 wm_X10_203 uX10_setOf h (kX10_setOf _ _ _) (by omega) rfl rfl (Nat.le_of_ble_eq_true rfl) (fun v11 w12 h => ?_)
    exact gj_iret C dX10_count_94 h
  refine gj_tab C (tgt := 95) dX10_count_1 6 6 (by decide) (by decide) rfl (by decide) h (fun h => ?_) (fun n1_6 h => ?_)
  · refine gj_aload_n C (pc' := 96) (i := 0) rfl dX10_count_95 rfl rfl ?_
    refine gj_getR C (pc' := 99) rfl dX10_count_96 wf_X10_7 h (fun v13 h => ?_)
    refine gj_iconst C (pc' := 100) (v := 3) rfl dX10_count_99 (by decide) ?_
    refine gj_iald C (pc' := 101) rfl dX10_count_100 h (fun v14 h => ?_)
    exact gj_iret C dX10_count_101 h
  refine gj_tab C (tgt := 102) dX10_count_1 7 7 (by decide) (by decide) rfl (by decide) h (fun h => ?_) (fun n1_7 h => ?_)
  · refine gj_aload_n C (pc' := 103) (i := 0) rfl dX10_count_102 rfl rfl ?_
    refine gj_getR C (pc' := 106) rfl dX10_count_103 wf_X10_7 h (fun v15 h => ?_)
    refine gj_iconst C (pc' := 107) (v := 4) rfl dX10_count_106 (by decide) ?_
    refine gj_iald C (pc' := 108) rfl dX10_count_107 h (fun v16 h => ?_)
    exact gj_iret C dX10_count_108 h
  refine gj_tab C (tgt := 109) dX10_count_1 8 8 (by decide) (by decide) rfl (by decide) h (fun h => ?_) (fun n1_8 h => ?_)
  · refine gj_aload_n C (pc' := 110) (i := 0) rfl dX10_count_109 rfl rfl ?_
    refine gj_getI C (pc' := 113) rfl dX10_count_110 wf_X10_216 h (fun v17 h => ?_)
    exact gj_iret C dX10_count_113 h
  refine gj_tab C (tgt := 114) dX10_count_1 9 9 (by decide) (by decide) rfl (by decide) h (fun h => ?_) (fun n1_9 h => ?_)
  · refine gj_aload_n C (pc' := 115) (i := 0) rfl dX10_count_114 rfl rfl ?_
    refine gj_getR C (pc' := 118) rfl dX10_count_115 wf_X10_7 h (fun v18 h => ?_)
    refine gj_iconst C (pc' := 119) (v := 1) rfl dX10_count_118 (by decide) ?_
    refine gj_iald C (pc' := 120) rfl dX10_count_119 h (fun v19 h => ?_)
    exact gj_iret C dX10_count_120 h
  refine gj_tabD C (tgt := 121) dX10_count_1 (by decide) (gj_tout _ 0 10 (fun j hj => match j, hj with | 0, _ => lv_neT n1_0 (by decide) | 1, _ => lv_neT n1_1 (by decide) | 2, _ => lv_neT n1_2 (by decide) | 3, _ => lv_neT n1_3 (by decide) | 4, _ => lv_neT n1_4 (by decide) | 5, _ => lv_neT n1_5 (by decide) | 6, _ => lv_neT n1_6 (by decide) | 7, _ => lv_neT n1_7 (by decide) | 8, _ => lv_neT n1_8 (by decide) | 9, _ => lv_neT n1_9 (by decide) | j + 10, hj => absurd hj (by omega))) ?_
  refine gj_aload_n C (pc' := 122) (i := 0) rfl dX10_count_121 rfl rfl ?_
  refine gj_ldc C (pc' := 124) rfl dX10_count_122 wk_X10_51 ?_
  refine gj_callVi C (pc' := 127) rfl dX10_count_124 wm_X10_52 uX10_errs h (kX10_errs _ _ _) (by omega) rfl rfl (Nat.le_of_ble_eq_true rfl) (fun v20 w21 h => ?_)
  exact gj_iret C dX10_count_127 h
set_option maxHeartbeats 4000000 in
set_option maxRecDepth 100000 in
theorem kX10_told : ∀ (x0 : Nat) (x1 : Int32) (w : ab_W) (r : Int32) (w1 : ab_W), sX10_told x0 x1 w = some (r, w1) → gj_Mi yX10_told cX10_told 2 (some .int) 1 [.ref x0, .int x1] w r w1 ∧ ab_is w 10 x0 = true := by
  intro x0 x1 w r w1 h
  unfold sX10_told at h
  obtain ⟨hi, h⟩ := ab_ite h
  refine ⟨?_, hi⟩
  refine gj_Mi_of RX10 [some (.ref x0), some (.int x1)] (by decide +kernel) rfl (Nat.le_of_ble_eq_true rfl) rfl (fun p l e s m args below meth c D ad tc A C => ?_)
  refine gj_iload_n C (pc' := 1) (i := 1) rfl dX10_told_0 rfl rfl ?_
  refine gj_iconst C (pc' := 2) (v := 1) rfl dX10_told_1 (by decide) ?_
  refine gj_iconst C (pc' := 3) (v := 5) rfl dX10_told_2 (by decide) ?_
  refine gj_callSi C (pc' := 6) rfl dX10_told_3 wm_X10_47 uX10_in h (kX10_in _ _ _ _) (by omega) rfl rfl (Nat.le_of_ble_eq_true rfl) (fun v1 w2 h => ?_)
  refine gj_if_eq C (pc' := 9) (tgt := 18) rfl dX10_told_6 rfl h (fun h => ?_) (fun h => ?_)
  · refine gj_aload_n C (pc' := 19) (i := 0) rfl dX10_told_18 rfl rfl ?_
    refine gj_ldc C (pc' := 21) rfl dX10_told_19 wk_X10_51 ?_
    refine gj_callVi C (pc' := 24) rfl dX10_told_21 wm_X10_52 uX10_errs h (kX10_errs _ _ _) (by omega) rfl rfl (Nat.le_of_ble_eq_true rfl) (fun v3 w4 h => ?_)
    exact gj_iret C dX10_told_24 h
  · refine gj_aload_n C (pc' := 10) (i := 0) rfl dX10_told_9 rfl rfl ?_
    refine gj_getR C (pc' := 13) rfl dX10_told_10 wf_X10_22 h (fun v5 h => ?_)
    refine gj_iload_n C (pc' := 14) (i := 1) rfl dX10_told_13 rfl rfl ?_
    refine gj_iald C (pc' := 15) rfl dX10_told_14 h (fun v6 h => ?_)
    refine gj_goto C (tgt := 24) dX10_told_15 rfl ?_
    exact gj_iret C dX10_told_24 h
set_option maxHeartbeats 4000000 in
set_option maxRecDepth 100000 in
theorem kX6_layFlat_100 {p : Program} {l : Launch} {e : Env} {s : State} {m : MethodId} {args : Array Value} {below : List Frame} {meth : Method} {c : Code} {D : va_G} {ad : Nat → Nat} {tc : Nat → ClassId} {A : Nat → Prop} (C : gj_C p s m args meth c D ad tc A cX6_layFlat 8 none RX6) {w1 : ab_W} {k25 : Nat → Int32 → Int32 → Int32 → Int32 → Int32 → Int32 → Int32 → ab_W → Option (ab_W)} (hk25 : ∀ {x0 : Nat} {x1 : Int32} {x2 : Int32} {x3 : Int32} {x4 : Int32} {x5 : Int32} {x6 : Int32} {x7 : Int32} {w : ab_W}, k25 x0 x1 x2 x3 x4 x5 x6 x7 w = some w1 → gj_G p l e (gj_R 1) s m args below meth c D ad tc A 8 (gj_Qv D ad tc A below args s w1) 25 [some (.ref x0), some (.int x1), some (.int x2), some (.int x3), some (.int x4), some (.int x5), some (.int x6), some (.int x7)] [] w) {x0 : Nat} {x1 : Int32} {x2 : Int32} {x3 : Int32} {x4 : Int32} {x5 : Int32} {x6 : Int32} {x7 : Int32} {w : ab_W} (h : sX6_layFlat_100 k25 x0 x1 x2 x3 x4 x5 x6 x7 w = some w1) : gj_G p l e (gj_R 1) s m args below meth c D ad tc A 8 (gj_Qv D ad tc A below args s w1) 100 [some (.ref x0), some (.int x1), some (.int x2), some (.int x3), some (.int x4), some (.int x5), some (.int x6), some (.int x7)] [] w := by
  unfold sX6_layFlat_100 at h
  refine gj_iload C (pc' := 102) (i := 4) rfl dX6_layFlat_100 rfl ?_
  refine gj_iload_n C (pc' := 103) (i := 2) rfl dX6_layFlat_102 rfl rfl ?_
  refine gj_mmin C (pc' := 106) (gj_R1 (by omega)) rfl dX6_layFlat_103 wm_X6_43 w_mmin (Nat.le_of_ble_eq_true rfl) ?_
  refine gj_istore C (pc' := 108) (i := 4) (lv' := [_, _, _, _, _, _, _, _]) rfl dX6_layFlat_106 (by decide) rfl rfl ?_
  refine gj_iload C (pc' := 110) (i := 5) rfl dX6_layFlat_108 rfl ?_
  refine gj_iload_n C (pc' := 111) (i := 2) rfl dX6_layFlat_110 rfl rfl ?_
  refine gj_mmax C (pc' := 114) (gj_R1 (by omega)) rfl dX6_layFlat_111 wm_X6_37 w_mmax (Nat.le_of_ble_eq_true rfl) ?_
  refine gj_istore C (pc' := 116) (i := 5) (lv' := [_, _, _, _, _, _, _, _]) rfl dX6_layFlat_114 (by decide) rfl rfl ?_
  refine gj_iinc C (pc' := 119) (i := 7) (v := _ + 1) (lv' := [_, _, _, _, _, _, _, _]) rfl dX6_layFlat_116 rfl rfl (by decide) rfl rfl ?_
  refine gj_goto C (tgt := 25) dX6_layFlat_119 rfl ?_
  refine gj_drop (lv' := [some _, some _, some _, some _, some _, some _, some _, some _]) (And.intro rfl (And.intro rfl (And.intro rfl (And.intro rfl (And.intro rfl (And.intro rfl (And.intro rfl (And.intro rfl True.intro)))))))) ?_
  exact hk25 h
set_option maxHeartbeats 4000000 in
set_option maxRecDepth 100000 in
theorem kX6_layFlat_64 {p : Program} {l : Launch} {e : Env} {s : State} {m : MethodId} {args : Array Value} {below : List Frame} {meth : Method} {c : Code} {D : va_G} {ad : Nat → Nat} {tc : Nat → ClassId} {A : Nat → Prop} (C : gj_C p s m args meth c D ad tc A cX6_layFlat 8 none RX6) {w1 : ab_W} {k25 : Nat → Int32 → Int32 → Int32 → Int32 → Int32 → Int32 → Int32 → ab_W → Option (ab_W)} (hk25 : ∀ {x0 : Nat} {x1 : Int32} {x2 : Int32} {x3 : Int32} {x4 : Int32} {x5 : Int32} {x6 : Int32} {x7 : Int32} {w : ab_W}, k25 x0 x1 x2 x3 x4 x5 x6 x7 w = some w1 → gj_G p l e (gj_R 1) s m args below meth c D ad tc A 8 (gj_Qv D ad tc A below args s w1) 25 [some (.ref x0), some (.int x1), some (.int x2), some (.int x3), some (.int x4), some (.int x5), some (.int x6), some (.int x7)] [] w) {x0 : Nat} {x1 : Int32} {x2 : Int32} {x3 : Int32} {x4 : Int32} {x5 : Int32} {x6 : Int32} {x7 : Int32} {w : ab_W} (h : sX6_layFlat_64 k25 x0 x1 x2 x3 x4 x5 x6 x7 w = some w1) : gj_G p l e (gj_R 1) s m args below meth c D ad tc A 8 (gj_Qv D ad tc A below args s w1) 64 [some (.ref x0), some (.int x1), some (.int x2), some (.int x3), some (.int x4), some (.int x5), some (.int x6), some (.int x7)] [] w := by
  unfold sX6_layFlat_64 at h
  refine gj_iload_n C (pc' := 65) (i := 2) rfl dX6_layFlat_64 rfl rfl ?_
  refine gj_if_lt C (pc' := 68) (tgt := 100) rfl dX6_layFlat_65 rfl h (fun h => ?_) (fun h => ?_)
  · refine gj_drop (lv' := [some _, some _, some _, some _, some _, some _, some _, some _]) (And.intro rfl (And.intro rfl (And.intro rfl (And.intro rfl (And.intro rfl (And.intro rfl (And.intro rfl (And.intro rfl True.intro)))))))) ?_
    exact kX6_layFlat_100 C (fun h => hk25 h) h
  · refine gj_iload_n C (pc' := 69) (i := 2) rfl dX6_layFlat_68 rfl rfl ?_
    refine gj_aload_n C (pc' := 70) (i := 0) rfl dX6_layFlat_69 rfl rfl ?_
    refine gj_getR C (pc' := 73) rfl dX6_layFlat_70 wf_X6_18 h (fun v1 h => ?_)
    refine gj_alen C (pc' := 74) rfl dX6_layFlat_73 h (fun v2 h => ?_)
    refine gj_icmp_ge C (pc' := 77) (tgt := 100) rfl dX6_layFlat_74 rfl h (fun h => ?_) (fun h => ?_)
    · refine gj_aload_n C (pc' := 78) (i := 0) rfl dX6_layFlat_77 rfl rfl ?_
      refine gj_getR C (pc' := 81) rfl dX6_layFlat_78 wf_X6_18 h (fun v3 h => ?_)
      refine gj_iload_n C (pc' := 82) (i := 2) rfl dX6_layFlat_81 rfl rfl ?_
      refine gj_dup2 C (pc' := 83) rfl dX6_layFlat_82 rfl rfl ?_
      refine gj_iald C (pc' := 84) rfl dX6_layFlat_83 h (fun v4 h => ?_)
      refine gj_iconst C (pc' := 85) (v := 1) rfl dX6_layFlat_84 (by decide) ?_
      refine gj_iadd C (pc' := 86) rfl dX6_layFlat_85 ?_
      refine gj_iast C (pc' := 87) rfl dX6_layFlat_86 h (fun w5 h => ?_)
      refine gj_iload C (pc' := 89) (i := 6) rfl dX6_layFlat_87 rfl ?_
      refine gj_aload_n C (pc' := 90) (i := 0) rfl dX6_layFlat_89 rfl rfl ?_
      refine gj_getR C (pc' := 93) rfl dX6_layFlat_90 wf_X6_18 h (fun v6 h => ?_)
      refine gj_iload_n C (pc' := 94) (i := 2) rfl dX6_layFlat_93 rfl rfl ?_
      refine gj_iald C (pc' := 95) rfl dX6_layFlat_94 h (fun v7 h => ?_)
      refine gj_mmax C (pc' := 98) (gj_R1 (by omega)) rfl dX6_layFlat_95 wm_X6_37 w_mmax (Nat.le_of_ble_eq_true rfl) ?_
      refine gj_istore C (pc' := 100) (i := 6) (lv' := [_, _, _, _, _, _, _, _]) rfl dX6_layFlat_98 (by decide) rfl rfl ?_
      refine gj_drop (lv' := [some _, some _, some _, some _, some _, some _, some _, some _]) (And.intro rfl (And.intro rfl (And.intro rfl (And.intro rfl (And.intro rfl (And.intro rfl (And.intro rfl (And.intro rfl True.intro)))))))) ?_
      exact kX6_layFlat_100 C (fun h => hk25 h) h
    · refine gj_drop (lv' := [some _, some _, some _, some _, some _, some _, some _, some _]) (And.intro rfl (And.intro rfl (And.intro rfl (And.intro rfl (And.intro rfl (And.intro rfl (And.intro rfl (And.intro rfl True.intro)))))))) ?_
      exact kX6_layFlat_100 C (fun h => hk25 h) h
set_option maxHeartbeats 4000000 in
set_option maxRecDepth 100000 in
theorem kX6_layFlat_55 {p : Program} {l : Launch} {e : Env} {s : State} {m : MethodId} {args : Array Value} {below : List Frame} {meth : Method} {c : Code} {D : va_G} {ad : Nat → Nat} {tc : Nat → ClassId} {A : Nat → Prop} (C : gj_C p s m args meth c D ad tc A cX6_layFlat 8 none RX6) {w1 : ab_W} {k25 : Nat → Int32 → Int32 → Int32 → Int32 → Int32 → Int32 → Int32 → ab_W → Option (ab_W)} (hk25 : ∀ {x0 : Nat} {x1 : Int32} {x2 : Int32} {x3 : Int32} {x4 : Int32} {x5 : Int32} {x6 : Int32} {x7 : Int32} {w : ab_W}, k25 x0 x1 x2 x3 x4 x5 x6 x7 w = some w1 → gj_G p l e (gj_R 1) s m args below meth c D ad tc A 8 (gj_Qv D ad tc A below args s w1) 25 [some (.ref x0), some (.int x1), some (.int x2), some (.int x3), some (.int x4), some (.int x5), some (.int x6), some (.int x7)] [] w) {x0 : Nat} {x1 : Int32} {x2 : Int32} {x3 : Int32} {x4 : Int32} {x5 : Int32} {x6 : Int32} {x7 : Int32} {w : ab_W} (h : sX6_layFlat_55 k25 x0 x1 x2 x3 x4 x5 x6 x7 w = some w1) : gj_G p l e (gj_R 1) s m args below meth c D ad tc A 8 (gj_Qv D ad tc A below args s w1) 55 [some (.ref x0), some (.int x1), some (.int x2), some (.int x3), some (.int x4), some (.int x5), some (.int x6), some (.int x7)] [] w := by
  unfold sX6_layFlat_55 at h
  refine gj_iload C (pc' := 57) (i := 7) rfl dX6_layFlat_55 rfl ?_
  refine gj_if_le C (pc' := 60) (tgt := 64) rfl dX6_layFlat_57 rfl h (fun h => ?_) (fun h => ?_)
  · refine gj_iload_n C (pc' := 61) (i := 2) rfl dX6_layFlat_60 rfl rfl ?_
    refine gj_iload_n C (pc' := 62) (i := 3) rfl dX6_layFlat_61 rfl rfl ?_
    refine gj_iadd C (pc' := 63) rfl dX6_layFlat_62 ?_
    refine gj_istore_n C (pc' := 64) (i := 2) (lv' := [_, _, _, _, _, _, _, _]) rfl dX6_layFlat_63 rfl (by decide) rfl rfl ?_
    refine gj_drop (lv' := [some _, some _, some _, some _, some _, some _, some _, some _]) (And.intro rfl (And.intro rfl (And.intro rfl (And.intro rfl (And.intro rfl (And.intro rfl (And.intro rfl (And.intro rfl True.intro)))))))) ?_
    exact kX6_layFlat_64 C (fun h => hk25 h) h
  · refine gj_drop (lv' := [some _, some _, some _, some _, some _, some _, some _, some _]) (And.intro rfl (And.intro rfl (And.intro rfl (And.intro rfl (And.intro rfl (And.intro rfl (And.intro rfl (And.intro rfl True.intro)))))))) ?_
    exact kX6_layFlat_64 C (fun h => hk25 h) h
set_option maxHeartbeats 4000000 in
set_option maxRecDepth 100000 in
theorem kX6_layFlat_25 {p : Program} {l : Launch} {e : Env} {s : State} {m : MethodId} {args : Array Value} {below : List Frame} {meth : Method} {c : Code} {D : va_G} {ad : Nat → Nat} {tc : Nat → ClassId} {A : Nat → Prop} (C : gj_C p s m args meth c D ad tc A cX6_layFlat 8 none RX6) {w1 : ab_W} : ∀ {n : Nat} {x0 : Nat} {x1 : Int32} {x2 : Int32} {x3 : Int32} {x4 : Int32} {x5 : Int32} {x6 : Int32} {x7 : Int32} {w : ab_W}, sX6_layFlat_25 n x0 x1 x2 x3 x4 x5 x6 x7 w = some w1 → gj_G p l e (gj_R 1) s m args below meth c D ad tc A 8 (gj_Qv D ad tc A below args s w1) 25 [some (.ref x0), some (.int x1), some (.int x2), some (.int x3), some (.int x4), some (.int x5), some (.int x6), some (.int x7)] [] w := by
  intro n
  induction n with
  | zero =>
    intros
    rename_i h
    cases h
  | succ n ih =>
    intro x0 x1 x2 x3 x4 x5 x6 x7 w h
    rw [sX6_layFlat_25] at h
    refine gj_iload C (pc' := 27) (i := 7) rfl dX6_layFlat_25 rfl ?_
    refine gj_bipush C (pc' := 29) (v := 8) rfl dX6_layFlat_27 (by decide) ?_
    refine gj_icmp_ge C (pc' := 32) (tgt := 122) rfl dX6_layFlat_29 rfl h (fun h => ?_) (fun h => ?_)
    · refine gj_iload C (pc' := 34) (i := 7) rfl dX6_layFlat_32 rfl ?_
      refine gj_if_le C (pc' := 37) (tgt := 55) rfl dX6_layFlat_34 rfl h (fun h => ?_) (fun h => ?_)
      · refine gj_iload_n C (pc' := 38) (i := 1) rfl dX6_layFlat_37 rfl rfl ?_
        refine gj_iload C (pc' := 40) (i := 7) rfl dX6_layFlat_38 rfl ?_
        refine gj_iconst C (pc' := 41) (v := 1) rfl dX6_layFlat_40 (by decide) ?_
        refine gj_isub C (pc' := 42) rfl dX6_layFlat_41 ?_
        refine gj_ishr C (pc' := 43) rfl dX6_layFlat_42 ?_
        refine gj_iconst C (pc' := 44) (v := 1) rfl dX6_layFlat_43 (by decide) ?_
        refine gj_iand C (pc' := 45) rfl dX6_layFlat_44 ?_
        refine gj_iconst C (pc' := 46) (v := 1) rfl dX6_layFlat_45 (by decide) ?_
        refine gj_icmp_ne C (pc' := 49) (tgt := 55) rfl dX6_layFlat_46 rfl h (fun h => ?_) (fun h => ?_)
        · refine gj_iload_n C (pc' := 50) (i := 3) rfl dX6_layFlat_49 rfl rfl ?_
          refine gj_ineg C (pc' := 51) rfl dX6_layFlat_50 ?_
          refine gj_istore_n C (pc' := 52) (i := 3) (lv' := [_, _, _, _, _, _, _, _]) rfl dX6_layFlat_51 rfl (by decide) rfl rfl ?_
          refine gj_goto C (tgt := 64) dX6_layFlat_52 rfl ?_
          refine gj_drop (lv' := [some _, some _, some _, some _, some _, some _, some _, some _]) (And.intro rfl (And.intro rfl (And.intro rfl (And.intro rfl (And.intro rfl (And.intro rfl (And.intro rfl (And.intro rfl True.intro)))))))) ?_
          exact kX6_layFlat_64 C (fun h => ih h) h
        · refine gj_drop (lv' := [some _, some _, some _, some _, some _, some _, some _, some _]) (And.intro rfl (And.intro rfl (And.intro rfl (And.intro rfl (And.intro rfl (And.intro rfl (And.intro rfl (And.intro rfl True.intro)))))))) ?_
          exact kX6_layFlat_55 C (fun h => ih h) h
      · refine gj_drop (lv' := [some _, some _, some _, some _, some _, some _, some _, some _]) (And.intro rfl (And.intro rfl (And.intro rfl (And.intro rfl (And.intro rfl (And.intro rfl (And.intro rfl (And.intro rfl True.intro)))))))) ?_
        exact kX6_layFlat_55 C (fun h => ih h) h
    · refine gj_aload_n C (pc' := 123) (i := 0) rfl dX6_layFlat_122 rfl rfl ?_
      refine gj_getR C (pc' := 126) rfl dX6_layFlat_123 wf_X6_9 h (fun v1 h => ?_)
      refine gj_iload_n C (pc' := 127) (i := 1) rfl dX6_layFlat_126 rfl rfl ?_
      refine gj_iload C (pc' := 129) (i := 5) rfl dX6_layFlat_127 rfl ?_
      refine gj_iload C (pc' := 131) (i := 4) rfl dX6_layFlat_129 rfl ?_
      refine gj_isub C (pc' := 132) rfl dX6_layFlat_131 ?_
      refine gj_iconst C (pc' := 133) (v := 1) rfl dX6_layFlat_132 (by decide) ?_
      refine gj_iadd C (pc' := 134) rfl dX6_layFlat_133 ?_
      refine gj_iast C (pc' := 135) rfl dX6_layFlat_134 h (fun w2 h => ?_)
      refine gj_aload_n C (pc' := 136) (i := 0) rfl dX6_layFlat_135 rfl rfl ?_
      refine gj_getR C (pc' := 139) rfl dX6_layFlat_136 wf_X6_15 h (fun v3 h => ?_)
      refine gj_iload_n C (pc' := 140) (i := 1) rfl dX6_layFlat_139 rfl rfl ?_
      refine gj_iload C (pc' := 142) (i := 6) rfl dX6_layFlat_140 rfl ?_
      refine gj_iast C (pc' := 143) rfl dX6_layFlat_142 h (fun w4 h => ?_)
      exact gj_vret C dX6_layFlat_143 h
set_option maxHeartbeats 4000000 in
set_option maxRecDepth 100000 in
theorem kX6_layFlat : ∀ (x0 : Nat) (x1 : Int32) (w : ab_W) (w1 : ab_W), sX6_layFlat x0 x1 w = some w1 → gj_Mv yX6_layFlat cX6_layFlat 8 none 1 [.ref x0, .int x1] w w1 ∧ ab_is w 6 x0 = true := by
  intro x0 x1 w w1 h
  unfold sX6_layFlat at h
  obtain ⟨hi, h⟩ := ab_ite h
  refine ⟨?_, hi⟩
  refine gj_Mv_of RX6 [some (.ref x0), some (.int x1), none, none, none, none, none, none] (by decide +kernel) rfl (Nat.le_of_ble_eq_true rfl) rfl (fun p l e s m args below meth c D ad tc A C => ?_)
  refine gj_aload_n C (pc' := 1) (i := 0) rfl dX6_layFlat_0 rfl rfl ?_
  refine gj_getR C (pc' := 4) rfl dX6_layFlat_1 wf_X6_18 h (fun v1 h => ?_)
  refine gj_iconst C (pc' := 5) (v := 0) rfl dX6_layFlat_4 (by decide) ?_
  refine gj_callSv C (pc' := 8) rfl dX6_layFlat_5 wm_X6_31 uJ7_fill_53178 h (kJ7_fill_53178 _ _ _) (by omega) rfl rfl (Nat.le_of_ble_eq_true rfl) (fun w2 h => ?_)
  refine gj_bipush C (pc' := 10) (v := 8) rfl dX6_layFlat_8 (by decide) ?_
  refine gj_istore_n C (pc' := 11) (i := 2) (lv' := [_, _, _, _, _, _, _, _]) rfl dX6_layFlat_10 rfl (by decide) rfl rfl ?_
  refine gj_iconst C (pc' := 12) (v := 1) rfl dX6_layFlat_11 (by decide) ?_
  refine gj_istore_n C (pc' := 13) (i := 3) (lv' := [_, _, _, _, _, _, _, _]) rfl dX6_layFlat_12 rfl (by decide) rfl rfl ?_
  refine gj_iload_n C (pc' := 14) (i := 2) rfl dX6_layFlat_13 rfl rfl ?_
  refine gj_istore C (pc' := 16) (i := 4) (lv' := [_, _, _, _, _, _, _, _]) rfl dX6_layFlat_14 (by decide) rfl rfl ?_
  refine gj_iload_n C (pc' := 17) (i := 2) rfl dX6_layFlat_16 rfl rfl ?_
  refine gj_istore C (pc' := 19) (i := 5) (lv' := [_, _, _, _, _, _, _, _]) rfl dX6_layFlat_17 (by decide) rfl rfl ?_
  refine gj_iconst C (pc' := 20) (v := 0) rfl dX6_layFlat_19 (by decide) ?_
  refine gj_istore C (pc' := 22) (i := 6) (lv' := [_, _, _, _, _, _, _, _]) rfl dX6_layFlat_20 (by decide) rfl rfl ?_
  refine gj_iconst C (pc' := 23) (v := 0) rfl dX6_layFlat_22 (by decide) ?_
  refine gj_istore C (pc' := 25) (i := 7) (lv' := [_, _, _, _, _, _, _, _]) rfl dX6_layFlat_23 (by decide) rfl rfl ?_
  refine gj_drop (lv' := [some _, some _, some _, some _, some _, some _, some _, some _]) (And.intro rfl (And.intro rfl (And.intro rfl (And.intro rfl (And.intro rfl (And.intro rfl (And.intro rfl (And.intro rfl True.intro)))))))) ?_
  exact kX6_layFlat_25 C h
