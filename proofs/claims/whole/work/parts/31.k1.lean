set_option maxHeartbeats 4000000 in
set_option maxRecDepth 100000 in
theorem kX2_valueOf : ∀ (x0 : Int32) (x1 : Int32) (x2 : Int32) (x3 : Int32) (w : ab_W) (r : Int32) (w1 : ab_W), sX2_valueOf x0 x1 x2 x3 w = some (r, w1) → gj_Mi yX2_valueOf cX2_valueOf 4 (some .int) 0 [.int x0, .int x1, .int x2, .int x3] w r w1 := by
  intro x0 x1 x2 x3 w r w1 h
  unfold sX2_valueOf at h
  refine gj_Mi_of RX2 [some (.int x0), some (.int x1), some (.int x2), some (.int x3)] (by decide +kernel) rfl (Nat.le_of_ble_eq_true rfl) rfl (fun p l e s m args below meth c D ad tc A C => ?_)
  refine gj_iload_n C (pc' := 1) (i := 0) rfl dX2_valueOf_0 rfl rfl ?_
  refine gj_sipush C (pc' := 4) (v := 10000) rfl dX2_valueOf_1 (by decide) ?_
  refine gj_isub C (pc' := 5) rfl dX2_valueOf_4 ?_
  refine gj_tab C (tgt := 32) dX2_valueOf_5 0 0 (by decide) (by decide) rfl (by decide) h (fun h => ?_) (fun n5_0 h => ?_)
  · refine gj_iload_n C (pc' := 33) (i := 1) rfl dX2_valueOf_32 rfl rfl ?_
    exact gj_iret C dX2_valueOf_33 h
  refine gj_tab C (tgt := 34) dX2_valueOf_5 1 1 (by decide) (by decide) rfl (by decide) h (fun h => ?_) (fun n5_1 h => ?_)
  · refine gj_iload_n C (pc' := 35) (i := 2) rfl dX2_valueOf_34 rfl rfl ?_
    exact gj_iret C dX2_valueOf_35 h
  refine gj_tab C (tgt := 36) dX2_valueOf_5 2 2 (by decide) (by decide) rfl (by decide) h (fun h => ?_) (fun n5_2 h => ?_)
  · refine gj_iload_n C (pc' := 37) (i := 3) rfl dX2_valueOf_36 rfl rfl ?_
    exact gj_iret C dX2_valueOf_37 h
  refine gj_tabD C (tgt := 38) dX2_valueOf_5 (by decide) (gj_tout _ 0 3 (fun j hj => match j, hj with | 0, _ => lv_neT n5_0 (by decide) | 1, _ => lv_neT n5_1 (by decide) | 2, _ => lv_neT n5_2 (by decide) | j + 3, hj => absurd hj (by omega))) ?_
  refine gj_iload_n C (pc' := 39) (i := 0) rfl dX2_valueOf_38 rfl rfl ?_
  exact gj_iret C dX2_valueOf_39 h
set_option maxHeartbeats 4000000 in
set_option maxRecDepth 100000 in
theorem kX2_workOut_145 {p : Program} {l : Launch} {e : Env} {s : State} {m : MethodId} {args : Array Value} {below : List Frame} {meth : Method} {c : Code} {D : va_G} {ad : Nat → Nat} {tc : Nat → ClassId} {A : Nat → Prop} (C : gj_C p s m args meth c D ad tc A cX2_workOut 7 (some .int) RX2) {r : Int32} {w1 : ab_W} {k6 : Nat → Int32 → Int32 → Int32 → Int32 → Int32 → ab_W → Option (Int32 × ab_W)} (hk6 : ∀ {x0 : Nat} {x1 : Int32} {x2 : Int32} {x3 : Int32} {x4 : Int32} {x5 : Int32} {w : ab_W}, k6 x0 x1 x2 x3 x4 x5 w = some (r, w1) → gj_G p l e (gj_R 1) s m args below meth c D ad tc A 7 (gj_Qi D ad tc A below args s r w1) 6 [some (.ref x0), some (.int x1), some (.int x2), some (.int x3), some (.int x4), some (.int x5), none] [] w) {x0 : Nat} {x1 : Int32} {x2 : Int32} {x3 : Int32} {x4 : Int32} {x5 : Int32} {w : ab_W} (h : sX2_workOut_145 k6 x0 x1 x2 x3 x4 x5 w = some (r, w1)) : gj_G p l e (gj_R 1) s m args below meth c D ad tc A 7 (gj_Qi D ad tc A below args s r w1) 145 [some (.ref x0), some (.int x1), some (.int x2), some (.int x3), some (.int x4), some (.int x5), none] [] w := by
  unfold sX2_workOut_145 at h
  refine gj_iinc C (pc' := 148) (i := 5) (v := _ + 1) (lv' := [_, _, _, _, _, _, _]) rfl dX2_workOut_145 rfl rfl (by decide) rfl rfl ?_
  refine gj_goto C (tgt := 6) dX2_workOut_148 rfl ?_
  refine gj_drop (lv' := [some _, some _, some _, some _, some _, some _, none]) (And.intro rfl (And.intro rfl (And.intro rfl (And.intro rfl (And.intro rfl (And.intro rfl True.intro)))))) ?_
  exact hk6 h
set_option maxHeartbeats 4000000 in
set_option maxRecDepth 100000 in
theorem kX2_workOut_98 {p : Program} {l : Launch} {e : Env} {s : State} {m : MethodId} {args : Array Value} {below : List Frame} {meth : Method} {c : Code} {D : va_G} {ad : Nat → Nat} {tc : Nat → ClassId} {A : Nat → Prop} (C : gj_C p s m args meth c D ad tc A cX2_workOut 7 (some .int) RX2) {r : Int32} {w1 : ab_W} {k6 : Nat → Int32 → Int32 → Int32 → Int32 → Int32 → ab_W → Option (Int32 × ab_W)} (hk6 : ∀ {x0 : Nat} {x1 : Int32} {x2 : Int32} {x3 : Int32} {x4 : Int32} {x5 : Int32} {w : ab_W}, k6 x0 x1 x2 x3 x4 x5 w = some (r, w1) → gj_G p l e (gj_R 1) s m args below meth c D ad tc A 7 (gj_Qi D ad tc A below args s r w1) 6 [some (.ref x0), some (.int x1), some (.int x2), some (.int x3), some (.int x4), some (.int x5), none] [] w) {x0 : Nat} {x1 : Int32} {x2 : Int32} {x3 : Int32} {x4 : Int32} {x5 : Int32} {p0 : Nat} {p1 : Int32} {p2 : Int32} {w : ab_W} (h : sX2_workOut_98 k6 x0 x1 x2 x3 x4 x5 p0 p1 p2 w = some (r, w1)) : gj_G p l e (gj_R 1) s m args below meth c D ad tc A 7 (gj_Qi D ad tc A below args s r w1) 98 [some (.ref x0), some (.int x1), some (.int x2), some (.int x3), some (.int x4), some (.int x5), none] [.int p2, .int p1, .ref p0] w := by
  unfold sX2_workOut_98 at h
  refine gj_iast C (pc' := 99) rfl dX2_workOut_98 h (fun w1 h => ?_)
  refine gj_goto C (tgt := 145) dX2_workOut_99 rfl ?_
  refine gj_drop (lv' := [some _, some _, some _, some _, some _, some _, none]) (And.intro rfl (And.intro rfl (And.intro rfl (And.intro rfl (And.intro rfl (And.intro rfl True.intro)))))) ?_
  exact kX2_workOut_145 C (fun h => hk6 h) h
set_option maxHeartbeats 4000000 in
set_option maxRecDepth 100000 in
theorem kX2_workOut_6 {p : Program} {l : Launch} {e : Env} {s : State} {m : MethodId} {args : Array Value} {below : List Frame} {meth : Method} {c : Code} {D : va_G} {ad : Nat → Nat} {tc : Nat → ClassId} {A : Nat → Prop} (C : gj_C p s m args meth c D ad tc A cX2_workOut 7 (some .int) RX2) {r : Int32} {w1 : ab_W} : ∀ {n : Nat} {x0 : Nat} {x1 : Int32} {x2 : Int32} {x3 : Int32} {x4 : Int32} {x5 : Int32} {w : ab_W}, sX2_workOut_6 n x0 x1 x2 x3 x4 x5 w = some (r, w1) → gj_G p l e (gj_R 1) s m args below meth c D ad tc A 7 (gj_Qi D ad tc A below args s r w1) 6 [some (.ref x0), some (.int x1), some (.int x2), some (.int x3), some (.int x4), some (.int x5), none] [] w := by
  intro n
  induction n with
  | zero =>
    intros
    rename_i h
    cases h
  | succ n ih =>
    intro x0 x1 x2 x3 x4 x5 w h
    rw [sX2_workOut_6] at h
    refine gj_iload C (pc' := 8) (i := 5) rfl dX2_workOut_6 rfl ?_
    refine gj_aload_n C (pc' := 9) (i := 0) rfl dX2_workOut_8 rfl rfl ?_
    refine gj_getI C (pc' := 12) rfl dX2_workOut_9 wf_X2_18 h (fun v1 h => ?_)
    refine gj_icmp_ge C (pc' := 15) (tgt := 151) rfl dX2_workOut_12 rfl h (fun h => ?_) (fun h => ?_)
    · refine gj_aload_n C (pc' := 16) (i := 0) rfl dX2_workOut_15 rfl rfl ?_
      refine gj_getR C (pc' := 19) rfl dX2_workOut_16 wf_X2_9 h (fun v2 h => ?_)
      refine gj_iload C (pc' := 21) (i := 5) rfl dX2_workOut_19 rfl ?_
      refine gj_iald C (pc' := 22) rfl dX2_workOut_21 h (fun v3 h => ?_)
      refine gj_istore C (pc' := 24) (i := 6) (lv' := [_, _, _, _, _, _, _]) rfl dX2_workOut_22 (by decide) rfl rfl ?_
      refine gj_iload C (pc' := 26) (i := 6) rfl dX2_workOut_24 rfl ?_
      refine gj_sipush C (pc' := 29) (v := 20000) rfl dX2_workOut_26 (by decide) ?_
      refine gj_icmp_ge C (pc' := 32) (tgt := 60) rfl dX2_workOut_29 rfl h (fun h => ?_) (fun h => ?_)
      · refine gj_iload C (pc' := 34) (i := 4) rfl dX2_workOut_32 rfl ?_
        refine gj_bipush C (pc' := 36) (v := 50) rfl dX2_workOut_34 (by decide) ?_
        refine gj_icmp_ge C (pc' := 39) (tgt := 145) rfl dX2_workOut_36 rfl h (fun h => ?_) (fun h => ?_)
        · refine gj_aload_n C (pc' := 40) (i := 0) rfl dX2_workOut_39 rfl rfl ?_
          refine gj_getR C (pc' := 43) rfl dX2_workOut_40 wf_X2_15 h (fun v4 h => ?_)
          refine gj_iload C (pc' := 45) (i := 4) rfl dX2_workOut_43 rfl ?_
          refine gj_iload C (pc' := 47) (i := 6) rfl dX2_workOut_45 rfl ?_
          refine gj_iload_n C (pc' := 48) (i := 1) rfl dX2_workOut_47 rfl rfl ?_
          refine gj_iload_n C (pc' := 49) (i := 2) rfl dX2_workOut_48 rfl rfl ?_
          refine gj_iload_n C (pc' := 50) (i := 3) rfl dX2_workOut_49 rfl rfl ?_
          refine gj_callSi C (pc' := 53) rfl dX2_workOut_50 wm_X2_28 uX2_valueOf h (kX2_valueOf _ _ _ _ _) (by omega) rfl rfl (Nat.le_of_ble_eq_true rfl) (fun v5 w6 h => ?_)
          refine gj_iast C (pc' := 54) rfl dX2_workOut_53 h (fun w7 h => ?_)
          refine gj_iinc C (pc' := 57) (i := 4) (v := _ + 1) (lv' := [_, _, _, _, _, _, _]) rfl dX2_workOut_54 rfl rfl (by decide) rfl rfl ?_
          refine gj_goto C (tgt := 145) dX2_workOut_57 rfl ?_
          refine gj_drop (lv' := [some _, some _, some _, some _, some _, some _, none]) (And.intro rfl (And.intro rfl (And.intro rfl (And.intro rfl (And.intro rfl (And.intro rfl True.intro)))))) ?_
          exact kX2_workOut_145 C (fun h => ih h) h
        · refine gj_drop (lv' := [some _, some _, some _, some _, some _, some _, none]) (And.intro rfl (And.intro rfl (And.intro rfl (And.intro rfl (And.intro rfl (And.intro rfl True.intro)))))) ?_
          exact kX2_workOut_145 C (fun h => ih h) h
      · refine gj_iload C (pc' := 62) (i := 6) rfl dX2_workOut_60 rfl ?_
        refine gj_sipush C (pc' := 65) (v := 20033) rfl dX2_workOut_62 (by decide) ?_
        refine gj_icmp_ne C (pc' := 68) (tgt := 102) rfl dX2_workOut_65 rfl h (fun h => ?_) (fun h => ?_)
        · refine gj_iload C (pc' := 70) (i := 4) rfl dX2_workOut_68 rfl ?_
          refine gj_if_le C (pc' := 73) (tgt := 145) rfl dX2_workOut_70 rfl h (fun h => ?_) (fun h => ?_)
          · refine gj_aload_n C (pc' := 74) (i := 0) rfl dX2_workOut_73 rfl rfl ?_
            refine gj_getR C (pc' := 77) rfl dX2_workOut_74 wf_X2_15 h (fun v8 h => ?_)
            refine gj_iload C (pc' := 79) (i := 4) rfl dX2_workOut_77 rfl ?_
            refine gj_iconst C (pc' := 80) (v := 1) rfl dX2_workOut_79 (by decide) ?_
            refine gj_isub C (pc' := 81) rfl dX2_workOut_80 ?_
            refine gj_aload_n C (pc' := 82) (i := 0) rfl dX2_workOut_81 rfl rfl ?_
            refine gj_getR C (pc' := 85) rfl dX2_workOut_82 wf_X2_15 h (fun v9 h => ?_)
            refine gj_iload C (pc' := 87) (i := 4) rfl dX2_workOut_85 rfl ?_
            refine gj_iconst C (pc' := 88) (v := 1) rfl dX2_workOut_87 (by decide) ?_
            refine gj_isub C (pc' := 89) rfl dX2_workOut_88 ?_
            refine gj_iald C (pc' := 90) rfl dX2_workOut_89 h (fun v10 h => ?_)
            refine gj_if_ne C (pc' := 93) (tgt := 97) rfl dX2_workOut_90 rfl h (fun h => ?_) (fun h => ?_)
            · refine gj_iconst C (pc' := 94) (v := 1) rfl dX2_workOut_93 (by decide) ?_
              refine gj_goto C (tgt := 98) dX2_workOut_94 rfl ?_
              refine gj_drop (lv' := [some _, some _, some _, some _, some _, some _, none]) (And.intro rfl (And.intro rfl (And.intro rfl (And.intro rfl (And.intro rfl (And.intro rfl True.intro)))))) ?_
              exact kX2_workOut_98 C (fun h => ih h) h
            · refine gj_iconst C (pc' := 98) (v := 0) rfl dX2_workOut_97 (by decide) ?_
              refine gj_drop (lv' := [some _, some _, some _, some _, some _, some _, none]) (And.intro rfl (And.intro rfl (And.intro rfl (And.intro rfl (And.intro rfl (And.intro rfl True.intro)))))) ?_
              exact kX2_workOut_98 C (fun h => ih h) h
          · refine gj_drop (lv' := [some _, some _, some _, some _, some _, some _, none]) (And.intro rfl (And.intro rfl (And.intro rfl (And.intro rfl (And.intro rfl (And.intro rfl True.intro)))))) ?_
            exact kX2_workOut_145 C (fun h => ih h) h
        · refine gj_iload C (pc' := 104) (i := 4) rfl dX2_workOut_102 rfl ?_
          refine gj_iconst C (pc' := 105) (v := 1) rfl dX2_workOut_104 (by decide) ?_
          refine gj_icmp_le C (pc' := 108) (tgt := 145) rfl dX2_workOut_105 rfl h (fun h => ?_) (fun h => ?_)
          · refine gj_iinc C (pc' := 111) (i := 4) (v := _ + (-1)) (lv' := [_, _, _, _, _, _, _]) rfl dX2_workOut_108 rfl rfl (by decide) rfl rfl ?_
            refine gj_aload_n C (pc' := 112) (i := 0) rfl dX2_workOut_111 rfl rfl ?_
            refine gj_getR C (pc' := 115) rfl dX2_workOut_112 wf_X2_15 h (fun v11 h => ?_)
            refine gj_iload C (pc' := 117) (i := 4) rfl dX2_workOut_115 rfl ?_
            refine gj_iconst C (pc' := 118) (v := 1) rfl dX2_workOut_117 (by decide) ?_
            refine gj_isub C (pc' := 119) rfl dX2_workOut_118 ?_
            refine gj_iload C (pc' := 121) (i := 6) rfl dX2_workOut_119 rfl ?_
            refine gj_sipush C (pc' := 124) (v := 20000) rfl dX2_workOut_121 (by decide) ?_
            refine gj_isub C (pc' := 125) rfl dX2_workOut_124 ?_
            refine gj_aload_n C (pc' := 126) (i := 0) rfl dX2_workOut_125 rfl rfl ?_
            refine gj_getR C (pc' := 129) rfl dX2_workOut_126 wf_X2_15 h (fun v12 h => ?_)
            refine gj_iload C (pc' := 131) (i := 4) rfl dX2_workOut_129 rfl ?_
            refine gj_iconst C (pc' := 132) (v := 1) rfl dX2_workOut_131 (by decide) ?_
            refine gj_isub C (pc' := 133) rfl dX2_workOut_132 ?_
            refine gj_iald C (pc' := 134) rfl dX2_workOut_133 h (fun v13 h => ?_)
            refine gj_aload_n C (pc' := 135) (i := 0) rfl dX2_workOut_134 rfl rfl ?_
            refine gj_getR C (pc' := 138) rfl dX2_workOut_135 wf_X2_15 h (fun v14 h => ?_)
            refine gj_iload C (pc' := 140) (i := 4) rfl dX2_workOut_138 rfl ?_
            refine gj_iald C (pc' := 141) rfl dX2_workOut_140 h (fun v15 h => ?_)
            refine gj_callSi C (pc' := 144) rfl dX2_workOut_141 wm_X2_32 uX2_joined h (kX2_joined _ _ _ _) (by omega) rfl rfl (Nat.le_of_ble_eq_true rfl) (fun v16 w17 h => ?_)
            refine gj_iast C (pc' := 145) rfl dX2_workOut_144 h (fun w18 h => ?_)
            refine gj_drop (lv' := [some _, some _, some _, some _, some _, some _, none]) (And.intro rfl (And.intro rfl (And.intro rfl (And.intro rfl (And.intro rfl (And.intro rfl True.intro)))))) ?_
            exact kX2_workOut_145 C (fun h => ih h) h
          · refine gj_drop (lv' := [some _, some _, some _, some _, some _, some _, none]) (And.intro rfl (And.intro rfl (And.intro rfl (And.intro rfl (And.intro rfl (And.intro rfl True.intro)))))) ?_
            exact kX2_workOut_145 C (fun h => ih h) h
    · refine gj_iload C (pc' := 153) (i := 4) rfl dX2_workOut_151 rfl ?_
      refine gj_if_le C (pc' := 156) (tgt := 165) rfl dX2_workOut_153 rfl h (fun h => ?_) (fun h => ?_)
      · refine gj_aload_n C (pc' := 157) (i := 0) rfl dX2_workOut_156 rfl rfl ?_
        refine gj_getR C (pc' := 160) rfl dX2_workOut_157 wf_X2_15 h (fun v19 h => ?_)
        refine gj_iconst C (pc' := 161) (v := 0) rfl dX2_workOut_160 (by decide) ?_
        refine gj_iald C (pc' := 162) rfl dX2_workOut_161 h (fun v20 h => ?_)
        refine gj_goto C (tgt := 166) dX2_workOut_162 rfl ?_
        exact gj_iret C dX2_workOut_166 h
      · refine gj_iconst C (pc' := 166) (v := 0) rfl dX2_workOut_165 (by decide) ?_
        exact gj_iret C dX2_workOut_166 h
set_option maxHeartbeats 4000000 in
set_option maxRecDepth 100000 in
theorem kX2_workOut : ∀ (x0 : Nat) (x1 : Int32) (x2 : Int32) (x3 : Int32) (w : ab_W) (r : Int32) (w1 : ab_W), sX2_workOut x0 x1 x2 x3 w = some (r, w1) → gj_Mi yX2_workOut cX2_workOut 7 (some .int) 1 [.ref x0, .int x1, .int x2, .int x3] w r w1 ∧ ab_is w 2 x0 = true := by
  intro x0 x1 x2 x3 w r w1 h
  unfold sX2_workOut at h
  obtain ⟨hi, h⟩ := ab_ite h
  refine ⟨?_, hi⟩
  refine gj_Mi_of RX2 [some (.ref x0), some (.int x1), some (.int x2), some (.int x3), none, none, none] (by decide +kernel) rfl (Nat.le_of_ble_eq_true rfl) rfl (fun p l e s m args below meth c D ad tc A C => ?_)
  refine gj_iconst C (pc' := 1) (v := 0) rfl dX2_workOut_0 (by decide) ?_
  refine gj_istore C (pc' := 3) (i := 4) (lv' := [_, _, _, _, _, _, _]) rfl dX2_workOut_1 (by decide) rfl rfl ?_
  refine gj_iconst C (pc' := 4) (v := 0) rfl dX2_workOut_3 (by decide) ?_
  refine gj_istore C (pc' := 6) (i := 5) (lv' := [_, _, _, _, _, _, _]) rfl dX2_workOut_4 (by decide) rfl rfl ?_
  refine gj_drop (lv' := [some _, some _, some _, some _, some _, some _, none]) (And.intro rfl (And.intro rfl (And.intro rfl (And.intro rfl (And.intro rfl (And.intro rfl True.intro)))))) ?_
  exact kX2_workOut_6 C h
set_option maxHeartbeats 4000000 in
set_option maxRecDepth 100000 in
theorem kX0_gives_85 {p : Program} {l : Launch} {e : Env} {s : State} {m : MethodId} {args : Array Value} {below : List Frame} {meth : Method} {c : Code} {D : va_G} {ad : Nat → Nat} {tc : Nat → ClassId} {A : Nat → Prop} (C : gj_C p s m args meth c D ad tc A cX0_gives 6 (some .int) RX0) {r : Int32} {w1 : ab_W} {p0 : Int32} {w : ab_W} (h : sX0_gives_85 p0 w = some (r, w1)) : gj_G p l e (gj_R 2) s m args below meth c D ad tc A 6 (gj_Qi D ad tc A below args s r w1) 85 [none, none, none, none, none, none] [.int p0] w := by
  unfold sX0_gives_85 at h
  refine gj_istore C (pc' := 87) (i := 5) (lv' := [_, _, _, _, _, _]) rfl dX0_gives_85 (by decide) rfl rfl ?_
  refine gj_iconst C (pc' := 88) (v := 0) rfl dX0_gives_87 (by decide) ?_
  refine gj_sipush C (pc' := 91) (v := 999) rfl dX0_gives_88 (by decide) ?_
  refine gj_iload C (pc' := 93) (i := 5) rfl dX0_gives_91 rfl ?_
  refine gj_mmin C (pc' := 96) (gj_R1 (by omega)) rfl dX0_gives_93 wm_X0_87 w_mmin (Nat.le_of_ble_eq_true rfl) ?_
  refine gj_mmax C (pc' := 99) (gj_R1 (by omega)) rfl dX0_gives_96 wm_X0_93 w_mmax (Nat.le_of_ble_eq_true rfl) ?_
  exact gj_iret C dX0_gives_99 h
set_option maxHeartbeats 4000000 in
set_option maxRecDepth 100000 in
theorem kX0_gives_39 {p : Program} {l : Launch} {e : Env} {s : State} {m : MethodId} {args : Array Value} {below : List Frame} {meth : Method} {c : Code} {D : va_G} {ad : Nat → Nat} {tc : Nat → ClassId} {A : Nat → Prop} (C : gj_C p s m args meth c D ad tc A cX0_gives 6 (some .int) RX0) {r : Int32} {w1 : ab_W} {p0 : Int32} {w : ab_W} (h : sX0_gives_39 p0 w = some (r, w1)) : gj_G p l e (gj_R 2) s m args below meth c D ad tc A 6 (gj_Qi D ad tc A below args s r w1) 39 [none, none, none, none, none, none] [.int p0] w := by
  unfold sX0_gives_39 at h
  refine gj_istore C (pc' := 41) (i := 5) (lv' := [_, _, _, _, _, _]) rfl dX0_gives_39 (by decide) rfl rfl ?_
  refine gj_iconst C (pc' := 42) (v := 0) rfl dX0_gives_41 (by decide) ?_
  refine gj_bipush C (pc' := 44) (v := 99) rfl dX0_gives_42 (by decide) ?_
  refine gj_iload C (pc' := 46) (i := 5) rfl dX0_gives_44 rfl ?_
  refine gj_mmin C (pc' := 49) (gj_R1 (by omega)) rfl dX0_gives_46 wm_X0_87 w_mmin (Nat.le_of_ble_eq_true rfl) ?_
  refine gj_mmax C (pc' := 52) (gj_R1 (by omega)) rfl dX0_gives_49 wm_X0_93 w_mmax (Nat.le_of_ble_eq_true rfl) ?_
  exact gj_iret C dX0_gives_52 h
set_option maxHeartbeats 4000000 in
set_option maxRecDepth 100000 in
theorem kX0_gives : ∀ (x0 : Nat) (x1 : Int32) (x2 : Int32) (x3 : Int32) (x4 : Int32) (w : ab_W) (r : Int32) (w1 : ab_W), sX0_gives x0 x1 x2 x3 x4 w = some (r, w1) → gj_Mi yX0_gives cX0_gives 6 (some .int) 2 [.ref x0, .int x1, .int x2, .int x3, .int x4] w r w1 ∧ ab_is w 0 x0 = true := by
  intro x0 x1 x2 x3 x4 w r w1 h
  unfold sX0_gives at h
  obtain ⟨hi, h⟩ := ab_ite h
  refine ⟨?_, hi⟩
  refine gj_Mi_of RX0 [some (.ref x0), some (.int x1), some (.int x2), some (.int x3), some (.int x4), none] (by decide +kernel) rfl (Nat.le_of_ble_eq_true rfl) rfl (fun p l e s m args below meth c D ad tc A C => ?_)
  refine gj_iload_n C (pc' := 1) (i := 1) rfl dX0_gives_0 rfl rfl ?_
  refine gj_if_ne C (pc' := 4) (tgt := 53) rfl dX0_gives_1 rfl h (fun h => ?_) (fun h => ?_)
  · refine gj_aload_n C (pc' := 5) (i := 0) rfl dX0_gives_4 rfl rfl ?_
    refine gj_getR C (pc' := 8) rfl dX0_gives_5 wf_X0_23 h (fun v1 h => ?_)
    refine gj_iconst C (pc' := 9) (v := 0) rfl dX0_gives_8 (by decide) ?_
    refine gj_rald C (pc' := 10) (t := 2) rfl dX0_gives_9 rfl h (fun v2 h => ?_)
    refine gj_callVi C (pc' := 13) rfl dX0_gives_10 wm_X0_79 uX2_isMissing h (kX2_isMissing _ _) (by omega) rfl rfl (Nat.le_of_ble_eq_true rfl) (fun v3 w4 h => ?_)
    refine gj_if_eq C (pc' := 16) (tgt := 26) rfl dX0_gives_13 rfl h (fun h => ?_) (fun h => ?_)
    · refine gj_aload_n C (pc' := 27) (i := 0) rfl dX0_gives_26 rfl rfl ?_
      refine gj_getR C (pc' := 30) rfl dX0_gives_27 wf_X0_23 h (fun v5 h => ?_)
      refine gj_iconst C (pc' := 31) (v := 0) rfl dX0_gives_30 (by decide) ?_
      refine gj_rald C (pc' := 32) (t := 2) rfl dX0_gives_31 rfl h (fun v6 h => ?_)
      refine gj_iload_n C (pc' := 33) (i := 2) rfl dX0_gives_32 rfl rfl ?_
      refine gj_iload_n C (pc' := 34) (i := 3) rfl dX0_gives_33 rfl rfl ?_
      refine gj_iload C (pc' := 36) (i := 4) rfl dX0_gives_34 rfl ?_
      refine gj_callVi C (pc' := 39) rfl dX0_gives_36 wm_X0_83 uX2_workOut h (kX2_workOut _ _ _ _ _) (by omega) rfl rfl (Nat.le_of_ble_eq_true rfl) (fun v7 w8 h => ?_)
      refine gj_drop (lv' := [none, none, none, none, none, none]) True.intro ?_
      exact kX0_gives_39 C h
    · refine gj_bipush C (pc' := 18) (v := 9) rfl dX0_gives_16 (by decide) ?_
      refine gj_iload_n C (pc' := 19) (i := 2) rfl dX0_gives_18 rfl rfl ?_
      refine gj_isub C (pc' := 20) rfl dX0_gives_19 ?_
      refine gj_iload C (pc' := 22) (i := 4) rfl dX0_gives_20 rfl ?_
      refine gj_iadd C (pc' := 23) rfl dX0_gives_22 ?_
      refine gj_goto C (tgt := 39) dX0_gives_23 rfl ?_
      refine gj_drop (lv' := [none, none, none, none, none, none]) True.intro ?_
      exact kX0_gives_39 C h
  · refine gj_aload_n C (pc' := 54) (i := 0) rfl dX0_gives_53 rfl rfl ?_
    refine gj_getR C (pc' := 57) rfl dX0_gives_54 wf_X0_23 h (fun v9 h => ?_)
    refine gj_iconst C (pc' := 58) (v := 1) rfl dX0_gives_57 (by decide) ?_
    refine gj_rald C (pc' := 59) (t := 2) rfl dX0_gives_58 rfl h (fun v10 h => ?_)
    refine gj_callVi C (pc' := 62) rfl dX0_gives_59 wm_X0_79 uX2_isMissing h (kX2_isMissing _ _) (by omega) rfl rfl (Nat.le_of_ble_eq_true rfl) (fun v11 w12 h => ?_)
    refine gj_if_eq C (pc' := 65) (tgt := 72) rfl dX0_gives_62 rfl h (fun h => ?_) (fun h => ?_)
    · refine gj_aload_n C (pc' := 73) (i := 0) rfl dX0_gives_72 rfl rfl ?_
      refine gj_getR C (pc' := 76) rfl dX0_gives_73 wf_X0_23 h (fun v13 h => ?_)
      refine gj_iconst C (pc' := 77) (v := 1) rfl dX0_gives_76 (by decide) ?_
      refine gj_rald C (pc' := 78) (t := 2) rfl dX0_gives_77 rfl h (fun v14 h => ?_)
      refine gj_iload_n C (pc' := 79) (i := 2) rfl dX0_gives_78 rfl rfl ?_
      refine gj_iload_n C (pc' := 80) (i := 3) rfl dX0_gives_79 rfl rfl ?_
      refine gj_iload C (pc' := 82) (i := 4) rfl dX0_gives_80 rfl ?_
      refine gj_callVi C (pc' := 85) rfl dX0_gives_82 wm_X0_83 uX2_workOut h (kX2_workOut _ _ _ _ _) (by omega) rfl rfl (Nat.le_of_ble_eq_true rfl) (fun v15 w16 h => ?_)
      refine gj_drop (lv' := [none, none, none, none, none, none]) True.intro ?_
      exact kX0_gives_85 C h
    · refine gj_iload_n C (pc' := 66) (i := 3) rfl dX0_gives_65 rfl rfl ?_
      refine gj_bipush C (pc' := 68) (v := 10) rfl dX0_gives_66 (by decide) ?_
      refine gj_idiv C (pc' := 69) rfl dX0_gives_68 h (fun v17 h => ?_)
      refine gj_goto C (tgt := 85) dX0_gives_69 rfl ?_
      refine gj_drop (lv' := [none, none, none, none, none, none]) True.intro ?_
      exact kX0_gives_85 C h
set_option maxHeartbeats 4000000 in
set_option maxRecDepth 100000 in
theorem kX9_law : ∀ (x0 : Nat) (x1 : Int32) (x2 : Int32) (x3 : Int32) (x4 : Int32) (w : ab_W) (r : Int32) (w1 : ab_W), sX9_law x0 x1 x2 x3 x4 w = some (r, w1) → gj_Mi yX9_law cX9_law 5 (some .int) 3 [.ref x0, .int x1, .int x2, .int x3, .int x4] w r w1 ∧ ab_is w 9 x0 = true := by
  intro x0 x1 x2 x3 x4 w r w1 h
  unfold sX9_law at h
  obtain ⟨hi, h⟩ := ab_ite h
  refine ⟨?_, hi⟩
  refine gj_Mi_of RX9 [some (.ref x0), some (.int x1), some (.int x2), some (.int x3), some (.int x4)] (by decide +kernel) rfl (Nat.le_of_ble_eq_true rfl) rfl (fun p l e s m args below meth c D ad tc A C => ?_)
  refine gj_iload_n C (pc' := 1) (i := 1) rfl dX9_law_0 rfl rfl ?_
  refine gj_iconst C (pc' := 2) (v := 0) rfl dX9_law_1 (by decide) ?_
  refine gj_iconst C (pc' := 3) (v := 1) rfl dX9_law_2 (by decide) ?_
  refine gj_callSi C (pc' := 6) rfl dX9_law_3 wm_X9_62 uX9_within h (kX9_within _ _ _ _) (by omega) rfl rfl (Nat.le_of_ble_eq_true rfl) (fun v1 w2 h => ?_)
  refine gj_if_ne C (pc' := 9) (tgt := 15) rfl dX9_law_6 rfl h (fun h => ?_) (fun h => ?_)
  · refine gj_aload_n C (pc' := 10) (i := 0) rfl dX9_law_9 rfl rfl ?_
    refine gj_iconst C (pc' := 11) (v := 1) rfl dX9_law_10 (by decide) ?_
    refine gj_callVi C (pc' := 14) rfl dX9_law_11 wm_X9_66 uX9_fail h (kX9_fail _ _ _) (by omega) rfl rfl (Nat.le_of_ble_eq_true rfl) (fun v3 w4 h => ?_)
    exact gj_iret C dX9_law_14 h
  · refine gj_aload_n C (pc' := 16) (i := 0) rfl dX9_law_15 rfl rfl ?_
    refine gj_getR C (pc' := 19) rfl dX9_law_16 wf_X9_30 h (fun v5 h => ?_)
    refine gj_iload_n C (pc' := 20) (i := 1) rfl dX9_law_19 rfl rfl ?_
    refine gj_iload_n C (pc' := 21) (i := 2) rfl dX9_law_20 rfl rfl ?_
    refine gj_iload_n C (pc' := 22) (i := 3) rfl dX9_law_21 rfl rfl ?_
    refine gj_iload C (pc' := 24) (i := 4) rfl dX9_law_22 rfl ?_
    refine gj_callVi C (pc' := 27) rfl dX9_law_24 wm_X9_159 uX0_gives h (kX0_gives _ _ _ _ _ _) (by omega) rfl rfl (Nat.le_of_ble_eq_true rfl) (fun v6 w7 h => ?_)
    exact gj_iret C dX9_law_27 h
set_option maxHeartbeats 4000000 in
set_option maxRecDepth 100000 in
theorem kX0_debtOfAll_4 {p : Program} {l : Launch} {e : Env} {s : State} {m : MethodId} {args : Array Value} {below : List Frame} {meth : Method} {c : Code} {D : va_G} {ad : Nat → Nat} {tc : Nat → ClassId} {A : Nat → Prop} (C : gj_C p s m args meth c D ad tc A cX0_debtOfAll 3 (some .int) RX0) {r : Int32} {w1 : ab_W} : ∀ {n : Nat} {x0 : Nat} {x1 : Int32} {x2 : Int32} {w : ab_W}, sX0_debtOfAll_4 n x0 x1 x2 w = some (r, w1) → gj_G p l e (gj_R 0) s m args below meth c D ad tc A 3 (gj_Qi D ad tc A below args s r w1) 4 [some (.ref x0), some (.int x1), some (.int x2)] [] w := by
  intro n
  induction n with
  | zero =>
    intros
    rename_i h
    cases h
  | succ n ih =>
    intro x0 x1 x2 w h
    rw [sX0_debtOfAll_4] at h
    refine gj_iload_n C (pc' := 5) (i := 2) rfl dX0_debtOfAll_4 rfl rfl ?_
    refine gj_aload_n C (pc' := 6) (i := 0) rfl dX0_debtOfAll_5 rfl rfl ?_
    refine gj_getI C (pc' := 9) rfl dX0_debtOfAll_6 wf_X0_32 h (fun v1 h => ?_)
    refine gj_icmp_ge C (pc' := 12) (tgt := 30) rfl dX0_debtOfAll_9 rfl h (fun h => ?_) (fun h => ?_)
    · refine gj_iload_n C (pc' := 13) (i := 1) rfl dX0_debtOfAll_12 rfl rfl ?_
      refine gj_aload_n C (pc' := 14) (i := 0) rfl dX0_debtOfAll_13 rfl rfl ?_
      refine gj_getR C (pc' := 17) rfl dX0_debtOfAll_14 wf_X0_11 h (fun v2 h => ?_)
      refine gj_iload_n C (pc' := 18) (i := 2) rfl dX0_debtOfAll_17 rfl rfl ?_
      refine gj_rald C (pc' := 19) (t := 1) rfl dX0_debtOfAll_18 rfl h (fun v3 h => ?_)
      refine gj_getI C (pc' := 22) rfl dX0_debtOfAll_19 wf_X0_68 h (fun v4 h => ?_)
      refine gj_iadd C (pc' := 23) rfl dX0_debtOfAll_22 ?_
      refine gj_istore_n C (pc' := 24) (i := 1) (lv' := [_, _, _]) rfl dX0_debtOfAll_23 rfl (by decide) rfl rfl ?_
      refine gj_iinc C (pc' := 27) (i := 2) (v := _ + 1) (lv' := [_, _, _]) rfl dX0_debtOfAll_24 rfl rfl (by decide) rfl rfl ?_
      refine gj_goto C (tgt := 4) dX0_debtOfAll_27 rfl ?_
      refine gj_drop (lv' := [some _, some _, some _]) (And.intro rfl (And.intro rfl (And.intro rfl True.intro))) ?_
      exact ih h
    · refine gj_iload_n C (pc' := 31) (i := 1) rfl dX0_debtOfAll_30 rfl rfl ?_
      exact gj_iret C dX0_debtOfAll_31 h
set_option maxHeartbeats 4000000 in
set_option maxRecDepth 100000 in
theorem kX0_debtOfAll : ∀ (x0 : Nat) (w : ab_W) (r : Int32) (w1 : ab_W), sX0_debtOfAll x0 w = some (r, w1) → gj_Mi yX0_debtOfAll cX0_debtOfAll 3 (some .int) 0 [.ref x0] w r w1 ∧ ab_is w 0 x0 = true := by
  intro x0 w r w1 h
  unfold sX0_debtOfAll at h
  obtain ⟨hi, h⟩ := ab_ite h
  refine ⟨?_, hi⟩
  refine gj_Mi_of RX0 [some (.ref x0), none, none] (by decide +kernel) rfl (Nat.le_of_ble_eq_true rfl) rfl (fun p l e s m args below meth c D ad tc A C => ?_)
  refine gj_iconst C (pc' := 1) (v := 0) rfl dX0_debtOfAll_0 (by decide) ?_
  refine gj_istore_n C (pc' := 2) (i := 1) (lv' := [_, _, _]) rfl dX0_debtOfAll_1 rfl (by decide) rfl rfl ?_
  refine gj_iconst C (pc' := 3) (v := 0) rfl dX0_debtOfAll_2 (by decide) ?_
  refine gj_istore_n C (pc' := 4) (i := 2) (lv' := [_, _, _]) rfl dX0_debtOfAll_3 rfl (by decide) rfl rfl ?_
  refine gj_drop (lv' := [some _, some _, some _]) (And.intro rfl (And.intro rfl (And.intro rfl True.intro))) ?_
  exact kX0_debtOfAll_4 C h
set_option maxHeartbeats 4000000 in
set_option maxRecDepth 100000 in
theorem kX1_go_20 {p : Program} {l : Launch} {e : Env} {s : State} {m : MethodId} {args : Array Value} {below : List Frame} {meth : Method} {c : Code} {D : va_G} {ad : Nat → Nat} {tc : Nat → ClassId} {A : Nat → Prop} (C : gj_C p s m args meth c D ad tc A cX1_go 2 none RX1) {w1 : ab_W} {x0 : Nat} {w : ab_W} (h : sX1_go_20 x0 w = some w1) : gj_G p l e (gj_R 1) s m args below meth c D ad tc A 2 (gj_Qv D ad tc A below args s w1) 20 [some (.ref x0), none] [] w := by
  unfold sX1_go_20 at h
  refine gj_aload_n C (pc' := 21) (i := 0) rfl dX1_go_20 rfl rfl ?_
  refine gj_sipush C (pc' := 24) (v := 999) rfl dX1_go_21 (by decide) ?_
  refine gj_aload_n C (pc' := 25) (i := 0) rfl dX1_go_24 rfl rfl ?_
  refine gj_getI C (pc' := 28) rfl dX1_go_25 wf_X1_9 h (fun v1 h => ?_)
  refine gj_aload_n C (pc' := 29) (i := 0) rfl dX1_go_28 rfl rfl ?_
  refine gj_getI C (pc' := 32) rfl dX1_go_29 wf_X1_25 h (fun v2 h => ?_)
  refine gj_iadd C (pc' := 33) rfl dX1_go_32 ?_
  refine gj_mmin C (pc' := 36) (gj_R1 (by omega)) rfl dX1_go_33 wm_X1_41 w_mmin (Nat.le_of_ble_eq_true rfl) ?_
  refine gj_putI C (pc' := 39) (ty := .int) rfl dX1_go_36 wf_X1_9 wp_X1_0 rfl h (fun w3 h => ?_)
  exact gj_vret C dX1_go_39 h
set_option maxHeartbeats 4000000 in
set_option maxRecDepth 100000 in
theorem kX1_go : ∀ (x0 : Nat) (x1 : Int32) (w : ab_W) (w1 : ab_W), sX1_go x0 x1 w = some w1 → gj_Mv yX1_go cX1_go 2 none 1 [.ref x0, .int x1] w w1 ∧ ab_is w 1 x0 = true := by
  intro x0 x1 w w1 h
  unfold sX1_go at h
  obtain ⟨hi, h⟩ := ab_ite h
  refine ⟨?_, hi⟩
  refine gj_Mv_of RX1 [some (.ref x0), some (.int x1)] (by decide +kernel) rfl (Nat.le_of_ble_eq_true rfl) rfl (fun p l e s m args below meth c D ad tc A C => ?_)
  refine gj_aload_n C (pc' := 1) (i := 0) rfl dX1_go_0 rfl rfl ?_
  refine gj_getI C (pc' := 4) rfl dX1_go_1 wf_X1_18 h (fun v1 h => ?_)
  refine gj_if_eq C (pc' := 7) (tgt := 39) rfl dX1_go_4 rfl h (fun h => ?_) (fun h => ?_)
  · exact gj_vret C dX1_go_39 h
  · refine gj_aload_n C (pc' := 8) (i := 0) rfl dX1_go_7 rfl rfl ?_
    refine gj_getI C (pc' := 11) rfl dX1_go_8 wf_X1_22 h (fun v2 h => ?_)
    refine gj_if_eq C (pc' := 14) (tgt := 20) rfl dX1_go_11 rfl h (fun h => ?_) (fun h => ?_)
    · refine gj_drop (lv' := [some _, none]) (And.intro rfl True.intro) ?_
      exact kX1_go_20 C h
    · refine gj_iload_n C (pc' := 15) (i := 1) rfl dX1_go_14 rfl rfl ?_
      refine gj_iconst C (pc' := 16) (v := 5) rfl dX1_go_15 (by decide) ?_
      refine gj_irem C (pc' := 17) rfl dX1_go_16 h (fun v3 h => ?_)
      refine gj_if_eq C (pc' := 20) (tgt := 39) rfl dX1_go_17 rfl h (fun h => ?_) (fun h => ?_)
      · exact gj_vret C dX1_go_39 h
      · refine gj_drop (lv' := [some _, none]) (And.intro rfl True.intro) ?_
        exact kX1_go_20 C h
set_option maxHeartbeats 4000000 in
set_option maxRecDepth 100000 in
theorem kX1_goAndLapse : ∀ (x0 : Nat) (x1 : Nat) (x2 : Int32) (w : ab_W) (w1 : ab_W), sX1_goAndLapse x0 x1 x2 w = some w1 → gj_Mv yX1_goAndLapse cX1_goAndLapse 3 none 3 [.ref x0, .ref x1, .int x2] w w1 ∧ ab_is w 1 x0 = true := by
  intro x0 x1 x2 w w1 h
  unfold sX1_goAndLapse at h
  obtain ⟨hi, h⟩ := ab_ite h
  refine ⟨?_, hi⟩
  refine gj_Mv_of RX1 [some (.ref x0), some (.ref x1), some (.int x2)] (by decide +kernel) rfl (Nat.le_of_ble_eq_true rfl) rfl (fun p l e s m args below meth c D ad tc A C => ?_)
  refine gj_aload_n C (pc' := 1) (i := 0) rfl dX1_goAndLapse_0 rfl rfl ?_
  refine gj_iload_n C (pc' := 2) (i := 2) rfl dX1_goAndLapse_1 rfl rfl ?_
  refine gj_callVv C (pc' := 5) rfl dX1_goAndLapse_2 wm_X1_44 uX1_go h (kX1_go _ _ _) (by omega) rfl rfl (Nat.le_of_ble_eq_true rfl) (fun w1 h => ?_)
  refine gj_aload_n C (pc' := 6) (i := 0) rfl dX1_goAndLapse_5 rfl rfl ?_
  refine gj_getI C (pc' := 9) rfl dX1_goAndLapse_6 wf_X1_18 h (fun v2 h => ?_)
  refine gj_if_eq C (pc' := 12) (tgt := 49) rfl dX1_goAndLapse_9 rfl h (fun h => ?_) (fun h => ?_)
  · exact gj_vret C dX1_goAndLapse_49 h
  · refine gj_aload_n C (pc' := 13) (i := 0) rfl dX1_goAndLapse_12 rfl rfl ?_
    refine gj_getI C (pc' := 16) rfl dX1_goAndLapse_13 wf_X1_15 h (fun v3 h => ?_)
    refine gj_if_le C (pc' := 19) (tgt := 49) rfl dX1_goAndLapse_16 rfl h (fun h => ?_) (fun h => ?_)
    · refine gj_aload_n C (pc' := 20) (i := 0) rfl dX1_goAndLapse_19 rfl rfl ?_
      refine gj_iconst C (pc' := 21) (v := 0) rfl dX1_goAndLapse_20 (by decide) ?_
      refine gj_aload_n C (pc' := 22) (i := 0) rfl dX1_goAndLapse_21 rfl rfl ?_
      refine gj_getI C (pc' := 25) rfl dX1_goAndLapse_22 wf_X1_15 h (fun v4 h => ?_)
      refine gj_aload_n C (pc' := 26) (i := 1) rfl dX1_goAndLapse_25 rfl rfl ?_
      refine gj_iconst C (pc' := 27) (v := 1) rfl dX1_goAndLapse_26 (by decide) ?_
      refine gj_aload_n C (pc' := 28) (i := 0) rfl dX1_goAndLapse_27 rfl rfl ?_
      refine gj_getI C (pc' := 31) rfl dX1_goAndLapse_28 wf_X1_15 h (fun v5 h => ?_)
      refine gj_aload_n C (pc' := 32) (i := 0) rfl dX1_goAndLapse_31 rfl rfl ?_
      refine gj_getI C (pc' := 35) rfl dX1_goAndLapse_32 wf_X1_9 h (fun v6 h => ?_)
      refine gj_iload_n C (pc' := 36) (i := 2) rfl dX1_goAndLapse_35 rfl rfl ?_
      refine gj_bipush C (pc' := 38) (v := 7) rfl dX1_goAndLapse_36 (by decide) ?_
      refine gj_irem C (pc' := 39) rfl dX1_goAndLapse_38 h (fun v7 h => ?_)
      refine gj_callVi C (pc' := 42) rfl dX1_goAndLapse_39 wm_X1_48 uX0_gives h (kX0_gives _ _ _ _ _ _) (by omega) rfl rfl (Nat.le_of_ble_eq_true rfl) (fun v8 w9 h => ?_)
      refine gj_isub C (pc' := 43) rfl dX1_goAndLapse_42 ?_
      refine gj_mmax C (pc' := 46) (gj_R1 (by omega)) rfl dX1_goAndLapse_43 wm_X1_35 w_mmax (Nat.le_of_ble_eq_true rfl) ?_
      refine gj_putI C (pc' := 49) (ty := .int) rfl dX1_goAndLapse_46 wf_X1_15 wp_X1_1 rfl h (fun w10 h => ?_)
      exact gj_vret C dX1_goAndLapse_49 h
    · exact gj_vret C dX1_goAndLapse_49 h
set_option maxHeartbeats 4000000 in
set_option maxRecDepth 100000 in
theorem kX1_begin_35 {p : Program} {l : Launch} {e : Env} {s : State} {m : MethodId} {args : Array Value} {below : List Frame} {meth : Method} {c : Code} {D : va_G} {ad : Nat → Nat} {tc : Nat → ClassId} {A : Nat → Prop} (C : gj_C p s m args meth c D ad tc A cX1_begin 3 none RX1) {w1 : ab_W} {x0 : Nat} {p0 : Nat} {p1 : Int32} {w : ab_W} (h : sX1_begin_35 x0 p0 p1 w = some w1) : gj_G p l e (gj_R 0) s m args below meth c D ad tc A 3 (gj_Qv D ad tc A below args s w1) 35 [some (.ref x0), none, none] [.int p1, .ref p0] w := by
  unfold sX1_begin_35 at h
  refine gj_putZ C (pc' := 38) (ty := .int) rfl dX1_begin_35 wf_X1_22 wp_X1_3 rfl h (fun w1 h => ?_)
  refine gj_aload_n C (pc' := 39) (i := 0) rfl dX1_begin_38 rfl rfl ?_
  refine gj_iconst C (pc' := 40) (v := 0) rfl dX1_begin_39 (by decide) ?_
  refine gj_putI C (pc' := 43) (ty := .int) rfl dX1_begin_40 wf_X1_25 wp_X1_4 rfl h (fun w2 h => ?_)
  exact gj_vret C dX1_begin_43 h
set_option maxHeartbeats 4000000 in
set_option maxRecDepth 100000 in
theorem kX1_begin : ∀ (x0 : Nat) (x1 : Nat) (x2 : Int32) (w : ab_W) (w1 : ab_W), sX1_begin x0 x1 x2 w = some w1 → gj_Mv yX1_begin cX1_begin 3 none 0 [.ref x0, .ref x1, .int x2] w w1 ∧ ab_is w 1 x0 = true := by
  intro x0 x1 x2 w w1 h
  unfold sX1_begin at h
  obtain ⟨hi, h⟩ := ab_ite h
  refine ⟨?_, hi⟩
  refine gj_Mv_of RX1 [some (.ref x0), some (.ref x1), some (.int x2)] (by decide +kernel) rfl (Nat.le_of_ble_eq_true rfl) rfl (fun p l e s m args below meth c D ad tc A C => ?_)
  refine gj_aload_n C (pc' := 1) (i := 0) rfl dX1_begin_0 rfl rfl ?_
  refine gj_aload_n C (pc' := 2) (i := 1) rfl dX1_begin_1 rfl rfl ?_
  refine gj_getI C (pc' := 5) rfl dX1_begin_2 wf_X1_28 h (fun v1 h => ?_)
  refine gj_putI C (pc' := 8) (ty := .int) rfl dX1_begin_5 wf_X1_9 wp_X1_0 rfl h (fun w2 h => ?_)
  refine gj_aload_n C (pc' := 9) (i := 0) rfl dX1_begin_8 rfl rfl ?_
  refine gj_aload_n C (pc' := 10) (i := 1) rfl dX1_begin_9 rfl rfl ?_
  refine gj_getI C (pc' := 13) rfl dX1_begin_10 wf_X1_31 h (fun v3 h => ?_)
  refine gj_putI C (pc' := 16) (ty := .int) rfl dX1_begin_13 wf_X1_15 wp_X1_1 rfl h (fun w4 h => ?_)
  refine gj_aload_n C (pc' := 17) (i := 0) rfl dX1_begin_16 rfl rfl ?_
  refine gj_iload_n C (pc' := 18) (i := 2) rfl dX1_begin_17 rfl rfl ?_
  refine gj_putZ C (pc' := 21) (ty := .int) rfl dX1_begin_18 wf_X1_18 wp_X1_2 rfl h (fun w5 h => ?_)
  refine gj_aload_n C (pc' := 22) (i := 0) rfl dX1_begin_21 rfl rfl ?_
  refine gj_aload_n C (pc' := 23) (i := 1) rfl dX1_begin_22 rfl rfl ?_
  refine gj_getI C (pc' := 26) rfl dX1_begin_23 wf_X1_32 h (fun v6 h => ?_)
  refine gj_iconst C (pc' := 27) (v := 5) rfl dX1_begin_26 (by decide) ?_
  refine gj_icmp_ne C (pc' := 30) (tgt := 34) rfl dX1_begin_27 rfl h (fun h => ?_) (fun h => ?_)
  · refine gj_iconst C (pc' := 31) (v := 1) rfl dX1_begin_30 (by decide) ?_
    refine gj_goto C (tgt := 35) dX1_begin_31 rfl ?_
    refine gj_drop (lv' := [some _, none, none]) (And.intro rfl True.intro) ?_
    exact kX1_begin_35 C h
  · refine gj_iconst C (pc' := 35) (v := 0) rfl dX1_begin_34 (by decide) ?_
    refine gj_drop (lv' := [some _, none, none]) (And.intro rfl True.intro) ?_
    exact kX1_begin_35 C h
set_option maxHeartbeats 4000000 in
set_option maxRecDepth 100000 in
theorem kX1_pace : ∀ (x0 : Nat) (x1 : Int32) (x2 : Int32) (x3 : Int32) (x4 : Int32) (w : ab_W) (w1 : ab_W), sX1_pace x0 x1 x2 x3 x4 w = some w1 → gj_Mv yX1_pace cX1_pace 5 none 1 [.ref x0, .int x1, .int x2, .int x3, .int x4] w w1 ∧ ab_is w 1 x0 = true := by
  intro x0 x1 x2 x3 x4 w w1 h
  unfold sX1_pace at h
  obtain ⟨hi, h⟩ := ab_ite h
  refine ⟨?_, hi⟩
  refine gj_Mv_of RX1 [some (.ref x0), some (.int x1), some (.int x2), some (.int x3), some (.int x4)] (by decide +kernel) rfl (Nat.le_of_ble_eq_true rfl) rfl (fun p l e s m args below meth c D ad tc A C => ?_)
  refine gj_iload_n C (pc' := 1) (i := 1) rfl dX1_pace_0 rfl rfl ?_
  refine gj_tab C (tgt := 40) dX1_pace_1 1 0 (by decide) (by decide) rfl (by decide) h (fun h => ?_) (fun n1_0 h => ?_)
  · refine gj_aload_n C (pc' := 41) (i := 0) rfl dX1_pace_40 rfl rfl ?_
    refine gj_iconst C (pc' := 42) (v := 2) rfl dX1_pace_41 (by decide) ?_
    refine gj_iload_n C (pc' := 43) (i := 2) rfl dX1_pace_42 rfl rfl ?_
    refine gj_imul C (pc' := 44) rfl dX1_pace_43 ?_
    refine gj_putI C (pc' := 47) (ty := .int) rfl dX1_pace_44 wf_X1_25 wp_X1_4 rfl h (fun w1 h => ?_)
    refine gj_goto C (tgt := 90) dX1_pace_47 rfl ?_
    exact gj_vret C dX1_pace_90 h
  refine gj_tab C (tgt := 50) dX1_pace_1 2 1 (by decide) (by decide) rfl (by decide) h (fun h => ?_) (fun n1_1 h => ?_)
  · refine gj_aload_n C (pc' := 51) (i := 0) rfl dX1_pace_50 rfl rfl ?_
    refine gj_iload_n C (pc' := 52) (i := 2) rfl dX1_pace_51 rfl rfl ?_
    refine gj_iload_n C (pc' := 53) (i := 3) rfl dX1_pace_52 rfl rfl ?_
    refine gj_iadd C (pc' := 54) rfl dX1_pace_53 ?_
    refine gj_putI C (pc' := 57) (ty := .int) rfl dX1_pace_54 wf_X1_25 wp_X1_4 rfl h (fun w2 h => ?_)
    refine gj_goto C (tgt := 90) dX1_pace_57 rfl ?_
    exact gj_vret C dX1_pace_90 h
  refine gj_tab C (tgt := 60) dX1_pace_1 3 2 (by decide) (by decide) rfl (by decide) h (fun h => ?_) (fun n1_2 h => ?_)
  · refine gj_aload_n C (pc' := 61) (i := 0) rfl dX1_pace_60 rfl rfl ?_
    refine gj_iconst C (pc' := 62) (v := 0) rfl dX1_pace_61 (by decide) ?_
    refine gj_iload_n C (pc' := 63) (i := 2) rfl dX1_pace_62 rfl rfl ?_
    refine gj_iload C (pc' := 65) (i := 4) rfl dX1_pace_63 rfl ?_
    refine gj_isub C (pc' := 66) rfl dX1_pace_65 ?_
    refine gj_mmax C (pc' := 69) (gj_R1 (by omega)) rfl dX1_pace_66 wm_X1_35 w_mmax (Nat.le_of_ble_eq_true rfl) ?_
    refine gj_putI C (pc' := 72) (ty := .int) rfl dX1_pace_69 wf_X1_25 wp_X1_4 rfl h (fun w3 h => ?_)
    refine gj_goto C (tgt := 90) dX1_pace_72 rfl ?_
    exact gj_vret C dX1_pace_90 h
  refine gj_tab C (tgt := 40) dX1_pace_1 4 3 (by decide) (by decide) rfl (by decide) h (fun h => ?_) (fun n1_3 h => ?_)
  · refine gj_aload_n C (pc' := 41) (i := 0) rfl dX1_pace_40 rfl rfl ?_
    refine gj_iconst C (pc' := 42) (v := 2) rfl dX1_pace_41 (by decide) ?_
    refine gj_iload_n C (pc' := 43) (i := 2) rfl dX1_pace_42 rfl rfl ?_
    refine gj_imul C (pc' := 44) rfl dX1_pace_43 ?_
    refine gj_putI C (pc' := 47) (ty := .int) rfl dX1_pace_44 wf_X1_25 wp_X1_4 rfl h (fun w4 h => ?_)
    refine gj_goto C (tgt := 90) dX1_pace_47 rfl ?_
    exact gj_vret C dX1_pace_90 h
  refine gj_tab C (tgt := 50) dX1_pace_1 5 4 (by decide) (by decide) rfl (by decide) h (fun h => ?_) (fun n1_4 h => ?_)
  · refine gj_aload_n C (pc' := 51) (i := 0) rfl dX1_pace_50 rfl rfl ?_
    refine gj_iload_n C (pc' := 52) (i := 2) rfl dX1_pace_51 rfl rfl ?_
    refine gj_iload_n C (pc' := 53) (i := 3) rfl dX1_pace_52 rfl rfl ?_
    refine gj_iadd C (pc' := 54) rfl dX1_pace_53 ?_
    refine gj_putI C (pc' := 57) (ty := .int) rfl dX1_pace_54 wf_X1_25 wp_X1_4 rfl h (fun w5 h => ?_)
    refine gj_goto C (tgt := 90) dX1_pace_57 rfl ?_
    exact gj_vret C dX1_pace_90 h
  refine gj_tab C (tgt := 75) dX1_pace_1 6 5 (by decide) (by decide) rfl (by decide) h (fun h => ?_) (fun n1_5 h => ?_)
  · refine gj_aload_n C (pc' := 76) (i := 0) rfl dX1_pace_75 rfl rfl ?_
    refine gj_iload_n C (pc' := 77) (i := 2) rfl dX1_pace_76 rfl rfl ?_
    refine gj_iconst C (pc' := 78) (v := 2) rfl dX1_pace_77 (by decide) ?_
    refine gj_idiv C (pc' := 79) rfl dX1_pace_78 h (fun v6 h => ?_)
    refine gj_putI C (pc' := 82) (ty := .int) rfl dX1_pace_79 wf_X1_25 wp_X1_4 rfl h (fun w7 h => ?_)
    refine gj_goto C (tgt := 90) dX1_pace_82 rfl ?_
    exact gj_vret C dX1_pace_90 h
  refine gj_tabD C (tgt := 85) dX1_pace_1 (by decide) (gj_tout _ 1 6 (fun j hj => match j, hj with | 0, _ => lv_neT n1_0 (by decide) | 1, _ => lv_neT n1_1 (by decide) | 2, _ => lv_neT n1_2 (by decide) | 3, _ => lv_neT n1_3 (by decide) | 4, _ => lv_neT n1_4 (by decide) | 5, _ => lv_neT n1_5 (by decide) | j + 6, hj => absurd hj (by omega))) ?_
  refine gj_aload_n C (pc' := 86) (i := 0) rfl dX1_pace_85 rfl rfl ?_
  refine gj_iload_n C (pc' := 87) (i := 2) rfl dX1_pace_86 rfl rfl ?_
  refine gj_putI C (pc' := 90) (ty := .int) rfl dX1_pace_87 wf_X1_25 wp_X1_4 rfl h (fun w8 h => ?_)
  exact gj_vret C dX1_pace_90 h
set_option maxHeartbeats 4000000 in
set_option maxRecDepth 100000 in
theorem kX7_pace : ∀ (x0 : Nat) (x1 : Nat) (x2 : Nat) (x3 : Int32) (x4 : Int32) (x5 : Int32) (w : ab_W) (w1 : ab_W), sX7_pace x0 x1 x2 x3 x4 x5 w = some w1 → gj_Mv yX7_pace cX7_pace 8 none 3 [.ref x0, .ref x1, .ref x2, .int x3, .int x4, .int x5] w w1 ∧ ab_is w 7 x0 = true := by
  intro x0 x1 x2 x3 x4 x5 w w1 h
  unfold sX7_pace at h
  obtain ⟨hi, h⟩ := ab_ite h
  refine ⟨?_, hi⟩
  refine gj_Mv_of RX7 [some (.ref x0), some (.ref x1), some (.ref x2), some (.int x3), some (.int x4), some (.int x5), none, none] (by decide +kernel) rfl (Nat.le_of_ble_eq_true rfl) rfl (fun p l e s m args below meth c D ad tc A C => ?_)
  refine gj_aload_n C (pc' := 1) (i := 2) rfl dX7_pace_0 rfl rfl ?_
  refine gj_getR C (pc' := 4) rfl dX7_pace_1 wf_X7_81 h (fun v1 h => ?_)
  refine gj_iload C (pc' := 6) (i := 4) rfl dX7_pace_4 rfl ?_
  refine gj_iald C (pc' := 7) rfl dX7_pace_6 h (fun v2 h => ?_)
  refine gj_istore C (pc' := 9) (i := 6) (lv' := [_, _, _, _, _, _, _, _]) rfl dX7_pace_7 (by decide) rfl rfl ?_
  refine gj_aload_n C (pc' := 10) (i := 2) rfl dX7_pace_9 rfl rfl ?_
  refine gj_getR C (pc' := 13) rfl dX7_pace_10 wf_X7_86 h (fun v3 h => ?_)
  refine gj_iload C (pc' := 15) (i := 4) rfl dX7_pace_13 rfl ?_
  refine gj_iald C (pc' := 16) rfl dX7_pace_15 h (fun v4 h => ?_)
  refine gj_istore C (pc' := 18) (i := 7) (lv' := [_, _, _, _, _, _, _, _]) rfl dX7_pace_16 (by decide) rfl rfl ?_
  refine gj_aload_n C (pc' := 19) (i := 0) rfl dX7_pace_18 rfl rfl ?_
  refine gj_getR C (pc' := 22) rfl dX7_pace_19 wf_X7_12 h (fun v5 h => ?_)
  refine gj_iload_n C (pc' := 23) (i := 3) rfl dX7_pace_22 rfl rfl ?_
  refine gj_aload_n C (pc' := 24) (i := 1) rfl dX7_pace_23 rfl rfl ?_
  refine gj_iconst C (pc' := 25) (v := 0) rfl dX7_pace_24 (by decide) ?_
  refine gj_iload C (pc' := 27) (i := 6) rfl dX7_pace_25 rfl ?_
  refine gj_iload C (pc' := 29) (i := 7) rfl dX7_pace_27 rfl ?_
  refine gj_iload C (pc' := 31) (i := 5) rfl dX7_pace_29 rfl ?_
  refine gj_callVi C (pc' := 34) rfl dX7_pace_31 wm_X7_89 uX0_gives h (kX0_gives _ _ _ _ _ _) (by omega) rfl rfl (Nat.le_of_ble_eq_true rfl) (fun v6 w7 h => ?_)
  refine gj_iload C (pc' := 36) (i := 6) rfl dX7_pace_34 rfl ?_
  refine gj_iload C (pc' := 38) (i := 7) rfl dX7_pace_36 rfl ?_
  refine gj_callVv C (pc' := 41) rfl dX7_pace_38 wm_X7_93 uX1_pace h (kX1_pace _ _ _ _ _ _) (by omega) rfl rfl (Nat.le_of_ble_eq_true rfl) (fun w8 h => ?_)
  exact gj_vret C dX7_pace_41 h
set_option maxHeartbeats 4000000 in
set_option maxRecDepth 100000 in
theorem kX7_follow : ∀ (x0 : Nat) (x1 : Nat) (x2 : Nat) (x3 : Nat) (x4 : Int32) (w : ab_W) (w1 : ab_W), sX7_follow x0 x1 x2 x3 x4 w = some w1 → gj_Mv yX7_follow cX7_follow 5 none 4 [.ref x0, .ref x1, .ref x2, .ref x3, .int x4] w w1 ∧ ab_is w 7 x0 = true := by
  intro x0 x1 x2 x3 x4 w w1 h
  unfold sX7_follow at h
  obtain ⟨hi, h⟩ := ab_ite h
  refine ⟨?_, hi⟩
  refine gj_Mv_of RX7 [some (.ref x0), some (.ref x1), some (.ref x2), some (.ref x3), some (.int x4)] (by decide +kernel) rfl (Nat.le_of_ble_eq_true rfl) rfl (fun p l e s m args below meth c D ad tc A C => ?_)
  refine gj_aload_n C (pc' := 1) (i := 0) rfl dX7_follow_0 rfl rfl ?_
  refine gj_getR C (pc' := 4) rfl dX7_follow_1 wf_X7_12 h (fun v1 h => ?_)
  refine gj_aload_n C (pc' := 5) (i := 3) rfl dX7_follow_4 rfl rfl ?_
  refine gj_iload C (pc' := 7) (i := 4) rfl dX7_follow_5 rfl ?_
  refine gj_callVv C (pc' := 10) rfl dX7_follow_7 wm_X7_64 uX1_begin h (kX1_begin _ _ _ _) (by omega) rfl rfl (Nat.le_of_ble_eq_true rfl) (fun w2 h => ?_)
  refine gj_aload_n C (pc' := 11) (i := 0) rfl dX7_follow_10 rfl rfl ?_
  refine gj_aload_n C (pc' := 12) (i := 1) rfl dX7_follow_11 rfl rfl ?_
  refine gj_aload_n C (pc' := 13) (i := 2) rfl dX7_follow_12 rfl rfl ?_
  refine gj_aload_n C (pc' := 14) (i := 3) rfl dX7_follow_13 rfl rfl ?_
  refine gj_getI C (pc' := 17) rfl dX7_follow_14 wf_X7_68 h (fun v3 h => ?_)
  refine gj_aload_n C (pc' := 18) (i := 3) rfl dX7_follow_17 rfl rfl ?_
  refine gj_getI C (pc' := 21) rfl dX7_follow_18 wf_X7_71 h (fun v4 h => ?_)
  refine gj_aload_n C (pc' := 22) (i := 1) rfl dX7_follow_21 rfl rfl ?_
  refine gj_getI C (pc' := 25) rfl dX7_follow_22 wf_X7_74 h (fun v5 h => ?_)
  refine gj_callVv C (pc' := 28) rfl dX7_follow_25 wm_X7_77 uX7_pace h (kX7_pace _ _ _ _ _ _ _) (by omega) rfl rfl (Nat.le_of_ble_eq_true rfl) (fun w6 h => ?_)
  exact gj_vret C dX7_follow_28 h
set_option maxHeartbeats 4000000 in
set_option maxRecDepth 100000 in
theorem kX7_debtBehind_17 {p : Program} {l : Launch} {e : Env} {s : State} {m : MethodId} {args : Array Value} {below : List Frame} {meth : Method} {c : Code} {D : va_G} {ad : Nat → Nat} {tc : Nat → ClassId} {A : Nat → Prop} (C : gj_C p s m args meth c D ad tc A cX7_debtBehind 7 (some .int) RX7) {r : Int32} {w1 : ab_W} : ∀ {n : Nat} {x0 : Nat} {x1 : Nat} {x5 : Int32} {x6 : Int32} {w : ab_W}, sX7_debtBehind_17 n x0 x1 x5 x6 w = some (r, w1) → gj_G p l e (gj_R 5) s m args below meth c D ad tc A 7 (gj_Qi D ad tc A below args s r w1) 17 [some (.ref x0), some (.ref x1), none, none, none, some (.int x5), some (.int x6)] [] w := by
  intro n
  induction n with
  | zero =>
    intros
    rename_i h
    cases h
  | succ n ih =>
    intro x0 x1 x5 x6 w h
    rw [sX7_debtBehind_17] at h
    refine gj_iload C (pc' := 19) (i := 6) rfl dX7_debtBehind_17 rfl ?_
    refine gj_iload C (pc' := 21) (i := 5) rfl dX7_debtBehind_19 rfl ?_
    refine gj_icmp_ge C (pc' := 24) (tgt := 45) rfl dX7_debtBehind_21 rfl h (fun h => ?_) (fun h => ?_)
    · refine gj_aload_n C (pc' := 25) (i := 0) rfl dX7_debtBehind_24 rfl rfl ?_
      refine gj_getR C (pc' := 28) rfl dX7_debtBehind_25 wf_X7_12 h (fun v1 h => ?_)
      refine gj_aload_n C (pc' := 29) (i := 1) rfl dX7_debtBehind_28 rfl rfl ?_
      refine gj_aload_n C (pc' := 30) (i := 1) rfl dX7_debtBehind_29 rfl rfl ?_
      refine gj_getI C (pc' := 33) rfl dX7_debtBehind_30 wf_X7_61 h (fun v2 h => ?_)
      refine gj_iload C (pc' := 35) (i := 6) rfl dX7_debtBehind_33 rfl ?_
      refine gj_iadd C (pc' := 36) rfl dX7_debtBehind_35 ?_
      refine gj_callVv C (pc' := 39) rfl dX7_debtBehind_36 wm_X7_100 uX1_goAndLapse h (kX1_goAndLapse _ _ _ _) (by omega) rfl rfl (Nat.le_of_ble_eq_true rfl) (fun w3 h => ?_)
      refine gj_iinc C (pc' := 42) (i := 6) (v := _ + 1) (lv' := [_, _, _, _, _, _, _]) rfl dX7_debtBehind_39 rfl rfl (by decide) rfl rfl ?_
      refine gj_goto C (tgt := 17) dX7_debtBehind_42 rfl ?_
      refine gj_drop (lv' := [some _, some _, none, none, none, some _, some _]) (And.intro rfl (And.intro rfl (And.intro rfl (And.intro rfl True.intro)))) ?_
      exact ih h
    · refine gj_aload_n C (pc' := 46) (i := 0) rfl dX7_debtBehind_45 rfl rfl ?_
      refine gj_getR C (pc' := 49) rfl dX7_debtBehind_46 wf_X7_12 h (fun v4 h => ?_)
      refine gj_getI C (pc' := 52) rfl dX7_debtBehind_49 wf_X7_104 h (fun v5 h => ?_)
      exact gj_iret C dX7_debtBehind_52 h
set_option maxHeartbeats 4000000 in
set_option maxRecDepth 100000 in
theorem kX7_debtBehind : ∀ (x0 : Nat) (x1 : Nat) (x2 : Nat) (x3 : Int32) (x4 : Int32) (x5 : Int32) (w : ab_W) (r : Int32) (w1 : ab_W), sX7_debtBehind x0 x1 x2 x3 x4 x5 w = some (r, w1) → gj_Mi yX7_debtBehind cX7_debtBehind 7 (some .int) 5 [.ref x0, .ref x1, .ref x2, .int x3, .int x4, .int x5] w r w1 ∧ ab_is w 7 x0 = true := by
  intro x0 x1 x2 x3 x4 x5 w r w1 h
  unfold sX7_debtBehind at h
  obtain ⟨hi, h⟩ := ab_ite h
  refine ⟨?_, hi⟩
  refine gj_Mi_of RX7 [some (.ref x0), some (.ref x1), some (.ref x2), some (.int x3), some (.int x4), some (.int x5), none] (by decide +kernel) rfl (Nat.le_of_ble_eq_true rfl) rfl (fun p l e s m args below meth c D ad tc A C => ?_)
  refine gj_aload_n C (pc' := 1) (i := 0) rfl dX7_debtBehind_0 rfl rfl ?_
  refine gj_aload_n C (pc' := 2) (i := 1) rfl dX7_debtBehind_1 rfl rfl ?_
  refine gj_aload_n C (pc' := 3) (i := 2) rfl dX7_debtBehind_2 rfl rfl ?_
  refine gj_aload_n C (pc' := 4) (i := 1) rfl dX7_debtBehind_3 rfl rfl ?_
  refine gj_getR C (pc' := 7) rfl dX7_debtBehind_4 wf_X7_40 h (fun v1 h => ?_)
  refine gj_iload_n C (pc' := 8) (i := 3) rfl dX7_debtBehind_7 rfl rfl ?_
  refine gj_rald C (pc' := 9) (t := 1) rfl dX7_debtBehind_8 rfl h (fun v2 h => ?_)
  refine gj_iload C (pc' := 11) (i := 4) rfl dX7_debtBehind_9 rfl ?_
  refine gj_callVv C (pc' := 14) rfl dX7_debtBehind_11 wm_X7_96 uX7_follow h (kX7_follow _ _ _ _ _ _) (by omega) rfl rfl (Nat.le_of_ble_eq_true rfl) (fun w3 h => ?_)
  refine gj_iconst C (pc' := 15) (v := 0) rfl dX7_debtBehind_14 (by decide) ?_
  refine gj_istore C (pc' := 17) (i := 6) (lv' := [_, _, _, _, _, _, _]) rfl dX7_debtBehind_15 (by decide) rfl rfl ?_
  refine gj_drop (lv' := [some _, some _, none, none, none, some _, some _]) (And.intro rfl (And.intro rfl (And.intro rfl (And.intro rfl True.intro)))) ?_
  exact kX7_debtBehind_17 C h
set_option maxHeartbeats 4000000 in
set_option maxRecDepth 100000 in
theorem kX7_pass_56 {p : Program} {l : Launch} {e : Env} {s : State} {m : MethodId} {args : Array Value} {below : List Frame} {meth : Method} {c : Code} {D : va_G} {ad : Nat → Nat} {tc : Nat → ClassId} {A : Nat → Prop} (C : gj_C p s m args meth c D ad tc A cX7_pass 6 none RX7) {w1 : ab_W} {k3 : Nat → Nat → Nat → Int32 → Int32 → ab_W → Option (ab_W)} (hk3 : ∀ {x0 : Nat} {x1 : Nat} {x2 : Nat} {x3 : Int32} {x4 : Int32} {w : ab_W}, k3 x0 x1 x2 x3 x4 w = some w1 → gj_G p l e (gj_R 6) s m args below meth c D ad tc A 6 (gj_Qv D ad tc A below args s w1) 3 [some (.ref x0), some (.ref x1), some (.ref x2), some (.int x3), some (.int x4), none] [] w) {x0 : Nat} {x1 : Nat} {x2 : Nat} {x3 : Int32} {x4 : Int32} {w : ab_W} (h : sX7_pass_56 k3 x0 x1 x2 x3 x4 w = some w1) : gj_G p l e (gj_R 6) s m args below meth c D ad tc A 6 (gj_Qv D ad tc A below args s w1) 56 [some (.ref x0), some (.ref x1), some (.ref x2), some (.int x3), some (.int x4), none] [] w := by
  unfold sX7_pass_56 at h
  refine gj_iinc C (pc' := 59) (i := 4) (v := _ + 1) (lv' := [_, _, _, _, _, _]) rfl dX7_pass_56 rfl rfl (by decide) rfl rfl ?_
  refine gj_goto C (tgt := 3) dX7_pass_59 rfl ?_
  refine gj_drop (lv' := [some _, some _, some _, some _, some _, none]) (And.intro rfl (And.intro rfl (And.intro rfl (And.intro rfl (And.intro rfl True.intro))))) ?_
  exact hk3 h
set_option maxHeartbeats 4000000 in
set_option maxRecDepth 100000 in
theorem kX7_pass_3 {p : Program} {l : Launch} {e : Env} {s : State} {m : MethodId} {args : Array Value} {below : List Frame} {meth : Method} {c : Code} {D : va_G} {ad : Nat → Nat} {tc : Nat → ClassId} {A : Nat → Prop} (C : gj_C p s m args meth c D ad tc A cX7_pass 6 none RX7) {w1 : ab_W} : ∀ {n : Nat} {x0 : Nat} {x1 : Nat} {x2 : Nat} {x3 : Int32} {x4 : Int32} {w : ab_W}, sX7_pass_3 n x0 x1 x2 x3 x4 w = some w1 → gj_G p l e (gj_R 6) s m args below meth c D ad tc A 6 (gj_Qv D ad tc A below args s w1) 3 [some (.ref x0), some (.ref x1), some (.ref x2), some (.int x3), some (.int x4), none] [] w := by
  intro n
  induction n with
  | zero =>
    intros
    rename_i h
    cases h
  | succ n ih =>
    intro x0 x1 x2 x3 x4 w h
    rw [sX7_pass_3] at h
    refine gj_iload C (pc' := 5) (i := 4) rfl dX7_pass_3 rfl ?_
    refine gj_aload_n C (pc' := 6) (i := 1) rfl dX7_pass_5 rfl rfl ?_
    refine gj_getI C (pc' := 9) rfl dX7_pass_6 wf_X7_35 h (fun v1 h => ?_)
    refine gj_icmp_ge C (pc' := 12) (tgt := 62) rfl dX7_pass_9 rfl h (fun h => ?_) (fun h => ?_)
    · refine gj_aload_n C (pc' := 13) (i := 1) rfl dX7_pass_12 rfl rfl ?_
      refine gj_getR C (pc' := 16) rfl dX7_pass_13 wf_X7_40 h (fun v2 h => ?_)
      refine gj_iload C (pc' := 18) (i := 4) rfl dX7_pass_16 rfl ?_
      refine gj_rald C (pc' := 19) (t := 1) rfl dX7_pass_18 rfl h (fun v3 h => ?_)
      refine gj_astore C (pc' := 21) (i := 5) (lv' := [_, _, _, _, _, _]) rfl dX7_pass_19 (by decide) rfl rfl ?_
      refine gj_aload C (pc' := 23) (i := 5) rfl dX7_pass_21 rfl ?_
      refine gj_getI C (pc' := 26) rfl dX7_pass_23 wf_X7_44 h (fun v4 h => ?_)
      refine gj_if_eq C (pc' := 29) (tgt := 56) rfl dX7_pass_26 rfl h (fun h => ?_) (fun h => ?_)
      · refine gj_drop (lv' := [some _, some _, some _, some _, some _, none]) (And.intro rfl (And.intro rfl (And.intro rfl (And.intro rfl (And.intro rfl True.intro))))) ?_
        exact kX7_pass_56 C (fun h => ih h) h
      · refine gj_aload C (pc' := 31) (i := 5) rfl dX7_pass_29 rfl ?_
        refine gj_aload_n C (pc' := 32) (i := 0) rfl dX7_pass_31 rfl rfl ?_
        refine gj_aload_n C (pc' := 33) (i := 1) rfl dX7_pass_32 rfl rfl ?_
        refine gj_aload_n C (pc' := 34) (i := 2) rfl dX7_pass_33 rfl rfl ?_
        refine gj_iload C (pc' := 36) (i := 4) rfl dX7_pass_34 rfl ?_
        refine gj_iconst C (pc' := 37) (v := 1) rfl dX7_pass_36 (by decide) ?_
        refine gj_iload_n C (pc' := 38) (i := 3) rfl dX7_pass_37 rfl rfl ?_
        refine gj_callVi C (pc' := 41) rfl dX7_pass_38 wm_X7_50 uX7_debtBehind h (kX7_debtBehind _ _ _ _ _ _ _) (by omega) rfl rfl (Nat.le_of_ble_eq_true rfl) (fun v5 w6 h => ?_)
        refine gj_putI C (pc' := 44) (ty := .int) rfl dX7_pass_41 wf_X7_54 wp_X3_2 rfl h (fun w7 h => ?_)
        refine gj_aload C (pc' := 46) (i := 5) rfl dX7_pass_44 rfl ?_
        refine gj_aload_n C (pc' := 47) (i := 0) rfl dX7_pass_46 rfl rfl ?_
        refine gj_getR C (pc' := 50) rfl dX7_pass_47 wf_X7_12 h (fun v8 h => ?_)
        refine gj_getI C (pc' := 53) rfl dX7_pass_50 wf_X7_57 h (fun v9 h => ?_)
        refine gj_putI C (pc' := 56) (ty := .int) rfl dX7_pass_53 wf_X7_60 wp_X3_5 rfl h (fun w10 h => ?_)
        refine gj_drop (lv' := [some _, some _, some _, some _, some _, none]) (And.intro rfl (And.intro rfl (And.intro rfl (And.intro rfl (And.intro rfl True.intro))))) ?_
        exact kX7_pass_56 C (fun h => ih h) h
    · refine gj_aload_n C (pc' := 63) (i := 1) rfl dX7_pass_62 rfl rfl ?_
      refine gj_dup C (pc' := 64) rfl dX7_pass_63 rfl ?_
      refine gj_getI C (pc' := 67) rfl dX7_pass_64 wf_X7_61 h (fun v11 h => ?_)
      refine gj_iload_n C (pc' := 68) (i := 3) rfl dX7_pass_67 rfl rfl ?_
      refine gj_iadd C (pc' := 69) rfl dX7_pass_68 ?_
      refine gj_putI C (pc' := 72) (ty := .int) rfl dX7_pass_69 wf_X7_61 wp_X0_5 rfl h (fun w12 h => ?_)
      exact gj_vret C dX7_pass_72 h
set_option maxHeartbeats 4000000 in
set_option maxRecDepth 100000 in
theorem kX7_pass : ∀ (x0 : Nat) (x1 : Nat) (x2 : Nat) (x3 : Int32) (w : ab_W) (w1 : ab_W), sX7_pass x0 x1 x2 x3 w = some w1 → gj_Mv yX7_pass cX7_pass 6 none 6 [.ref x0, .ref x1, .ref x2, .int x3] w w1 ∧ ab_is w 7 x0 = true := by
  intro x0 x1 x2 x3 w w1 h
  unfold sX7_pass at h
  obtain ⟨hi, h⟩ := ab_ite h
  refine ⟨?_, hi⟩
  refine gj_Mv_of RX7 [some (.ref x0), some (.ref x1), some (.ref x2), some (.int x3), none, none] (by decide +kernel) rfl (Nat.le_of_ble_eq_true rfl) rfl (fun p l e s m args below meth c D ad tc A C => ?_)
  refine gj_iconst C (pc' := 1) (v := 0) rfl dX7_pass_0 (by decide) ?_
  refine gj_istore C (pc' := 3) (i := 4) (lv' := [_, _, _, _, _, _]) rfl dX7_pass_1 (by decide) rfl rfl ?_
  refine gj_drop (lv' := [some _, some _, some _, some _, some _, none]) (And.intro rfl (And.intro rfl (And.intro rfl (And.intro rfl (And.intro rfl True.intro))))) ?_
  exact kX7_pass_3 C h
set_option maxHeartbeats 4000000 in
set_option maxRecDepth 100000 in
theorem kX9_days : ∀ (x0 : Nat) (x1 : Int32) (w : ab_W) (r : Int32) (w1 : ab_W), sX9_days x0 x1 w = some (r, w1) → gj_Mi yX9_days cX9_days 2 (some .int) 7 [.ref x0, .int x1] w r w1 ∧ ab_is w 9 x0 = true := by
  intro x0 x1 w r w1 h
  unfold sX9_days at h
  obtain ⟨hi, h⟩ := ab_ite h
  refine ⟨?_, hi⟩
  refine gj_Mi_of RX9 [some (.ref x0), some (.int x1)] (by decide +kernel) rfl (Nat.le_of_ble_eq_true rfl) rfl (fun p l e s m args below meth c D ad tc A C => ?_)
  refine gj_iload_n C (pc' := 1) (i := 1) rfl dX9_days_0 rfl rfl ?_
  refine gj_iconst C (pc' := 2) (v := 1) rfl dX9_days_1 (by decide) ?_
  refine gj_bipush C (pc' := 4) (v := 60) rfl dX9_days_2 (by decide) ?_
  refine gj_callSi C (pc' := 7) rfl dX9_days_4 wm_X9_62 uX9_within h (kX9_within _ _ _ _) (by omega) rfl rfl (Nat.le_of_ble_eq_true rfl) (fun v1 w2 h => ?_)
  refine gj_if_ne C (pc' := 10) (tgt := 16) rfl dX9_days_7 rfl h (fun h => ?_) (fun h => ?_)
  · refine gj_aload_n C (pc' := 11) (i := 0) rfl dX9_days_10 rfl rfl ?_
    refine gj_iconst C (pc' := 12) (v := 1) rfl dX9_days_11 (by decide) ?_
    refine gj_callVi C (pc' := 15) rfl dX9_days_12 wm_X9_66 uX9_fail h (kX9_fail _ _ _) (by omega) rfl rfl (Nat.le_of_ble_eq_true rfl) (fun v3 w4 h => ?_)
    exact gj_iret C dX9_days_15 h
  · refine gj_aload_n C (pc' := 17) (i := 0) rfl dX9_days_16 rfl rfl ?_
    refine gj_getR C (pc' := 20) rfl dX9_days_17 wf_X9_30 h (fun v5 h => ?_)
    refine gj_getI C (pc' := 23) rfl dX9_days_20 wf_X9_163 h (fun v6 h => ?_)
    refine gj_iload_n C (pc' := 24) (i := 1) rfl dX9_days_23 rfl rfl ?_
    refine gj_iadd C (pc' := 25) rfl dX9_days_24 ?_
    refine gj_sipush C (pc' := 28) (v := 9999) rfl dX9_days_25 (by decide) ?_
    refine gj_icmp_le C (pc' := 31) (tgt := 37) rfl dX9_days_28 rfl h (fun h => ?_) (fun h => ?_)
    · refine gj_aload_n C (pc' := 32) (i := 0) rfl dX9_days_31 rfl rfl ?_
      refine gj_iconst C (pc' := 33) (v := 3) rfl dX9_days_32 (by decide) ?_
      refine gj_callVi C (pc' := 36) rfl dX9_days_33 wm_X9_66 uX9_fail h (kX9_fail _ _ _) (by omega) rfl rfl (Nat.le_of_ble_eq_true rfl) (fun v7 w8 h => ?_)
      exact gj_iret C dX9_days_36 h
    · refine gj_aload_n C (pc' := 38) (i := 0) rfl dX9_days_37 rfl rfl ?_
      refine gj_getR C (pc' := 41) rfl dX9_days_38 wf_X9_40 h (fun v9 h => ?_)
      refine gj_aload_n C (pc' := 42) (i := 0) rfl dX9_days_41 rfl rfl ?_
      refine gj_getR C (pc' := 45) rfl dX9_days_42 wf_X9_30 h (fun v10 h => ?_)
      refine gj_aload_n C (pc' := 46) (i := 0) rfl dX9_days_45 rfl rfl ?_
      refine gj_getR C (pc' := 49) rfl dX9_days_46 wf_X9_23 h (fun v11 h => ?_)
      refine gj_iload_n C (pc' := 50) (i := 1) rfl dX9_days_49 rfl rfl ?_
      refine gj_callVv C (pc' := 53) rfl dX9_days_50 wm_X9_166 uX7_pass h (kX7_pass _ _ _ _ _) (by omega) rfl rfl (Nat.le_of_ble_eq_true rfl) (fun w12 h => ?_)
      refine gj_aload_n C (pc' := 54) (i := 0) rfl dX9_days_53 rfl rfl ?_
      refine gj_getR C (pc' := 57) rfl dX9_days_54 wf_X9_30 h (fun v13 h => ?_)
      refine gj_callVi C (pc' := 60) rfl dX9_days_57 wm_X9_170 uX0_debtOfAll h (kX0_debtOfAll _ _) (by omega) rfl rfl (Nat.le_of_ble_eq_true rfl) (fun v14 w15 h => ?_)
      exact gj_iret C dX9_days_60 h
set_option maxHeartbeats 4000000 in
set_option maxRecDepth 100000 in
theorem kX0_draw : ∀ (x0 : Nat) (w : ab_W) (r : Int32) (w1 : ab_W), sX0_draw x0 w = some (r, w1) → gj_Mi yX0_draw cX0_draw 1 (some .int) 0 [.ref x0] w r w1 ∧ ab_is w 0 x0 = true := by
  intro x0 w r w1 h
  unfold sX0_draw at h
  obtain ⟨hi, h⟩ := ab_ite h
  refine ⟨?_, hi⟩
  refine gj_Mi_of RX0 [some (.ref x0)] (by decide +kernel) rfl (Nat.le_of_ble_eq_true rfl) rfl (fun p l e s m args below meth c D ad tc A C => ?_)
  refine gj_aload_n C (pc' := 1) (i := 0) rfl dX0_draw_0 rfl rfl ?_
  refine gj_aload_n C (pc' := 2) (i := 0) rfl dX0_draw_1 rfl rfl ?_
  refine gj_getI C (pc' := 5) rfl dX0_draw_2 wf_X0_48 h (fun v1 h => ?_)
  refine gj_ldc C (pc' := 7) rfl dX0_draw_5 wk_X0_78 ?_
  refine gj_imul C (pc' := 8) rfl dX0_draw_7 ?_
  refine gj_sipush C (pc' := 11) (v := 12345) rfl dX0_draw_8 (by decide) ?_
  refine gj_iadd C (pc' := 12) rfl dX0_draw_11 ?_
  refine gj_putI C (pc' := 15) (ty := .int) rfl dX0_draw_12 wf_X0_48 wp_X0_9 rfl h (fun w2 h => ?_)
  refine gj_aload_n C (pc' := 16) (i := 0) rfl dX0_draw_15 rfl rfl ?_
  refine gj_getI C (pc' := 19) rfl dX0_draw_16 wf_X0_48 h (fun v3 h => ?_)
  refine gj_bipush C (pc' := 21) (v := 8) rfl dX0_draw_19 (by decide) ?_
  refine gj_iushr C (pc' := 22) rfl dX0_draw_21 ?_
  exact gj_iret C dX0_draw_22 h
set_option maxHeartbeats 4000000 in
set_option maxRecDepth 100000 in
theorem kX9_loose_39 {p : Program} {l : Launch} {e : Env} {s : State} {m : MethodId} {args : Array Value} {below : List Frame} {meth : Method} {c : Code} {D : va_G} {ad : Nat → Nat} {tc : Nat → ClassId} {A : Nat → Prop} (C : gj_C p s m args meth c D ad tc A cX9_loose 3 (some .int) RX9) {r : Int32} {w1 : ab_W} : ∀ {n : Nat} {x0 : Nat} {x1 : Int32} {x2 : Int32} {w : ab_W}, sX9_loose_39 n x0 x1 x2 w = some (r, w1) → gj_G p l e (gj_R 7) s m args below meth c D ad tc A 3 (gj_Qi D ad tc A below args s r w1) 39 [some (.ref x0), some (.int x1), some (.int x2)] [] w := by
  intro n
  induction n with
  | zero =>
    intros
    rename_i h
    cases h
  | succ n ih =>
    intro x0 x1 x2 w h
    rw [sX9_loose_39] at h
    refine gj_iload_n C (pc' := 40) (i := 2) rfl dX9_loose_39 rfl rfl ?_
    refine gj_iload_n C (pc' := 41) (i := 1) rfl dX9_loose_40 rfl rfl ?_
    refine gj_icmp_ge C (pc' := 44) (tgt := 83) rfl dX9_loose_41 rfl h (fun h => ?_) (fun h => ?_)
    · refine gj_aload_n C (pc' := 45) (i := 0) rfl dX9_loose_44 rfl rfl ?_
      refine gj_getR C (pc' := 48) rfl dX9_loose_45 wf_X9_30 h (fun v1 h => ?_)
      refine gj_aload_n C (pc' := 49) (i := 0) rfl dX9_loose_48 rfl rfl ?_
      refine gj_getR C (pc' := 52) rfl dX9_loose_49 wf_X9_30 h (fun v2 h => ?_)
      refine gj_callVi C (pc' := 55) rfl dX9_loose_52 wm_X9_173 uX0_draw h (kX0_draw _ _) (by omega) rfl rfl (Nat.le_of_ble_eq_true rfl) (fun v3 w4 h => ?_)
      refine gj_bipush C (pc' := 57) (v := 10) rfl dX9_loose_55 (by decide) ?_
      refine gj_irem C (pc' := 58) rfl dX9_loose_57 h (fun v5 h => ?_)
      refine gj_putI C (pc' := 61) (ty := .int) rfl dX9_loose_58 wf_X9_123 wp_X0_6 rfl h (fun w6 h => ?_)
      refine gj_aload_n C (pc' := 62) (i := 0) rfl dX9_loose_61 rfl rfl ?_
      refine gj_getR C (pc' := 65) rfl dX9_loose_62 wf_X9_40 h (fun v7 h => ?_)
      refine gj_aload_n C (pc' := 66) (i := 0) rfl dX9_loose_65 rfl rfl ?_
      refine gj_getR C (pc' := 69) rfl dX9_loose_66 wf_X9_30 h (fun v8 h => ?_)
      refine gj_aload_n C (pc' := 70) (i := 0) rfl dX9_loose_69 rfl rfl ?_
      refine gj_getR C (pc' := 73) rfl dX9_loose_70 wf_X9_23 h (fun v9 h => ?_)
      refine gj_iconst C (pc' := 74) (v := 1) rfl dX9_loose_73 (by decide) ?_
      refine gj_callVv C (pc' := 77) rfl dX9_loose_74 wm_X9_166 uX7_pass h (kX7_pass _ _ _ _ _) (by omega) rfl rfl (Nat.le_of_ble_eq_true rfl) (fun w10 h => ?_)
      refine gj_iinc C (pc' := 80) (i := 2) (v := _ + 1) (lv' := [_, _, _]) rfl dX9_loose_77 rfl rfl (by decide) rfl rfl ?_
      refine gj_goto C (tgt := 39) dX9_loose_80 rfl ?_
      refine gj_drop (lv' := [some _, some _, some _]) (And.intro rfl (And.intro rfl (And.intro rfl True.intro))) ?_
      exact ih h
    · refine gj_aload_n C (pc' := 84) (i := 0) rfl dX9_loose_83 rfl rfl ?_
      refine gj_getR C (pc' := 87) rfl dX9_loose_84 wf_X9_30 h (fun v11 h => ?_)
      refine gj_callVi C (pc' := 90) rfl dX9_loose_87 wm_X9_170 uX0_debtOfAll h (kX0_debtOfAll _ _) (by omega) rfl rfl (Nat.le_of_ble_eq_true rfl) (fun v12 w13 h => ?_)
      exact gj_iret C dX9_loose_90 h
set_option maxHeartbeats 4000000 in
set_option maxRecDepth 100000 in
theorem kX9_loose : ∀ (x0 : Nat) (x1 : Int32) (w : ab_W) (r : Int32) (w1 : ab_W), sX9_loose x0 x1 w = some (r, w1) → gj_Mi yX9_loose cX9_loose 3 (some .int) 7 [.ref x0, .int x1] w r w1 ∧ ab_is w 9 x0 = true := by
  intro x0 x1 w r w1 h
  unfold sX9_loose at h
  obtain ⟨hi, h⟩ := ab_ite h
  refine ⟨?_, hi⟩
  refine gj_Mi_of RX9 [some (.ref x0), some (.int x1), none] (by decide +kernel) rfl (Nat.le_of_ble_eq_true rfl) rfl (fun p l e s m args below meth c D ad tc A C => ?_)
  refine gj_iload_n C (pc' := 1) (i := 1) rfl dX9_loose_0 rfl rfl ?_
  refine gj_iconst C (pc' := 2) (v := 1) rfl dX9_loose_1 (by decide) ?_
  refine gj_bipush C (pc' := 4) (v := 40) rfl dX9_loose_2 (by decide) ?_
  refine gj_callSi C (pc' := 7) rfl dX9_loose_4 wm_X9_62 uX9_within h (kX9_within _ _ _ _) (by omega) rfl rfl (Nat.le_of_ble_eq_true rfl) (fun v1 w2 h => ?_)
  refine gj_if_ne C (pc' := 10) (tgt := 16) rfl dX9_loose_7 rfl h (fun h => ?_) (fun h => ?_)
  · refine gj_aload_n C (pc' := 11) (i := 0) rfl dX9_loose_10 rfl rfl ?_
    refine gj_iconst C (pc' := 12) (v := 1) rfl dX9_loose_11 (by decide) ?_
    refine gj_callVi C (pc' := 15) rfl dX9_loose_12 wm_X9_66 uX9_fail h (kX9_fail _ _ _) (by omega) rfl rfl (Nat.le_of_ble_eq_true rfl) (fun v3 w4 h => ?_)
    exact gj_iret C dX9_loose_15 h
  · refine gj_aload_n C (pc' := 17) (i := 0) rfl dX9_loose_16 rfl rfl ?_
    refine gj_getR C (pc' := 20) rfl dX9_loose_17 wf_X9_30 h (fun v5 h => ?_)
    refine gj_getI C (pc' := 23) rfl dX9_loose_20 wf_X9_163 h (fun v6 h => ?_)
    refine gj_iload_n C (pc' := 24) (i := 1) rfl dX9_loose_23 rfl rfl ?_
    refine gj_iadd C (pc' := 25) rfl dX9_loose_24 ?_
    refine gj_sipush C (pc' := 28) (v := 9999) rfl dX9_loose_25 (by decide) ?_
    refine gj_icmp_le C (pc' := 31) (tgt := 37) rfl dX9_loose_28 rfl h (fun h => ?_) (fun h => ?_)
    · refine gj_aload_n C (pc' := 32) (i := 0) rfl dX9_loose_31 rfl rfl ?_
      refine gj_iconst C (pc' := 33) (v := 3) rfl dX9_loose_32 (by decide) ?_
      refine gj_callVi C (pc' := 36) rfl dX9_loose_33 wm_X9_66 uX9_fail h (kX9_fail _ _ _) (by omega) rfl rfl (Nat.le_of_ble_eq_true rfl) (fun v7 w8 h => ?_)
      exact gj_iret C dX9_loose_36 h
    · refine gj_iconst C (pc' := 38) (v := 0) rfl dX9_loose_37 (by decide) ?_
      refine gj_istore_n C (pc' := 39) (i := 2) (lv' := [_, _, _]) rfl dX9_loose_38 rfl (by decide) rfl rfl ?_
      refine gj_drop (lv' := [some _, some _, some _]) (And.intro rfl (And.intro rfl (And.intro rfl True.intro))) ?_
      exact kX9_loose_39 C h
set_option maxHeartbeats 4000000 in
set_option maxRecDepth 100000 in
theorem kX9_shape_19 {p : Program} {l : Launch} {e : Env} {s : State} {m : MethodId} {args : Array Value} {below : List Frame} {meth : Method} {c : Code} {D : va_G} {ad : Nat → Nat} {tc : Nat → ClassId} {A : Nat → Prop} (C : gj_C p s m args meth c D ad tc A cX9_shape 3 (some .int) RX9) {r : Int32} {w1 : ab_W} {x0 : Nat} {w : ab_W} (h : sX9_shape_19 x0 w = some (r, w1)) : gj_G p l e (gj_R 2) s m args below meth c D ad tc A 3 (gj_Qi D ad tc A below args s r w1) 19 [some (.ref x0), none, none] [] w := by
  unfold sX9_shape_19 at h
  refine gj_aload_n C (pc' := 20) (i := 0) rfl dX9_shape_19 rfl rfl ?_
  refine gj_iconst C (pc' := 21) (v := 1) rfl dX9_shape_20 (by decide) ?_
  refine gj_callVi C (pc' := 24) rfl dX9_shape_21 wm_X9_66 uX9_fail h (kX9_fail _ _ _) (by omega) rfl rfl (Nat.le_of_ble_eq_true rfl) (fun v1 w2 h => ?_)
  exact gj_iret C dX9_shape_24 h
set_option maxHeartbeats 4000000 in
set_option maxRecDepth 100000 in
theorem kX9_shape : ∀ (x0 : Nat) (x1 : Int32) (x2 : Int32) (w : ab_W) (r : Int32) (w1 : ab_W), sX9_shape x0 x1 x2 w = some (r, w1) → gj_Mi yX9_shape cX9_shape 3 (some .int) 2 [.ref x0, .int x1, .int x2] w r w1 ∧ ab_is w 9 x0 = true := by
  intro x0 x1 x2 w r w1 h
  unfold sX9_shape at h
  obtain ⟨hi, h⟩ := ab_ite h
  refine ⟨?_, hi⟩
  refine gj_Mi_of RX9 [some (.ref x0), some (.int x1), some (.int x2)] (by decide +kernel) rfl (Nat.le_of_ble_eq_true rfl) rfl (fun p l e s m args below meth c D ad tc A C => ?_)
  refine gj_iload_n C (pc' := 1) (i := 1) rfl dX9_shape_0 rfl rfl ?_
  refine gj_iconst C (pc' := 2) (v := 0) rfl dX9_shape_1 (by decide) ?_
  refine gj_bipush C (pc' := 4) (v := 127) rfl dX9_shape_2 (by decide) ?_
  refine gj_callSi C (pc' := 7) rfl dX9_shape_4 wm_X9_62 uX9_within h (kX9_within _ _ _ _) (by omega) rfl rfl (Nat.le_of_ble_eq_true rfl) (fun v1 w2 h => ?_)
  refine gj_if_eq C (pc' := 10) (tgt := 19) rfl dX9_shape_7 rfl h (fun h => ?_) (fun h => ?_)
  · refine gj_drop (lv' := [some _, none, none]) (And.intro rfl True.intro) ?_
    exact kX9_shape_19 C h
  · refine gj_iload_n C (pc' := 11) (i := 2) rfl dX9_shape_10 rfl rfl ?_
    refine gj_iconst C (pc' := 12) (v := 0) rfl dX9_shape_11 (by decide) ?_
    refine gj_iconst C (pc' := 13) (v := 1) rfl dX9_shape_12 (by decide) ?_
    refine gj_callSi C (pc' := 16) rfl dX9_shape_13 wm_X9_62 uX9_within h (kX9_within _ _ _ _) (by omega) rfl rfl (Nat.le_of_ble_eq_true rfl) (fun v3 w4 h => ?_)
    refine gj_if_ne C (pc' := 19) (tgt := 25) rfl dX9_shape_16 rfl h (fun h => ?_) (fun h => ?_)
    · refine gj_drop (lv' := [some _, none, none]) (And.intro rfl True.intro) ?_
      exact kX9_shape_19 C h
    · refine gj_iload_n C (pc' := 26) (i := 2) rfl dX9_shape_25 rfl rfl ?_
      refine gj_if_ne C (pc' := 29) (tgt := 41) rfl dX9_shape_26 rfl h (fun h => ?_) (fun h => ?_)
      · refine gj_aload_n C (pc' := 30) (i := 0) rfl dX9_shape_29 rfl rfl ?_
        refine gj_getR C (pc' := 33) rfl dX9_shape_30 wf_X9_23 h (fun v5 h => ?_)
        refine gj_getR C (pc' := 36) rfl dX9_shape_33 wf_X9_106 h (fun v6 h => ?_)
        refine gj_iload_n C (pc' := 37) (i := 1) rfl dX9_shape_36 rfl rfl ?_
        refine gj_iald C (pc' := 38) rfl dX9_shape_37 h (fun v7 h => ?_)
        refine gj_goto C (tgt := 50) dX9_shape_38 rfl ?_
        exact gj_iret C dX9_shape_50 h
      · refine gj_aload_n C (pc' := 42) (i := 0) rfl dX9_shape_41 rfl rfl ?_
        refine gj_getR C (pc' := 45) rfl dX9_shape_42 wf_X9_23 h (fun v8 h => ?_)
        refine gj_getR C (pc' := 48) rfl dX9_shape_45 wf_X9_109 h (fun v9 h => ?_)
        refine gj_iload_n C (pc' := 49) (i := 1) rfl dX9_shape_48 rfl rfl ?_
        refine gj_iald C (pc' := 50) rfl dX9_shape_49 h (fun v10 h => ?_)
        exact gj_iret C dX9_shape_50 h
set_option maxHeartbeats 4000000 in
set_option maxRecDepth 100000 in
theorem kJ6_bitCount_0f7a4 : ∀ (x0 : Int32) (w : ab_W) (r : Int32) (w1 : ab_W), sJ6_bitCount_0f7a4 x0 w = some (r, w1) → gj_Mi yJ6_bitCount_0f7a4 cJ6_bitCount_0f7a4 1 (some .int) 0 [.int x0] w r w1 := by
  intro x0 w r w1 h
  unfold sJ6_bitCount_0f7a4 at h
  refine gj_Mi_of RJ6 [some (.int x0)] (by decide +kernel) rfl (Nat.le_of_ble_eq_true rfl) rfl (fun p l e s m args below meth c D ad tc A C => ?_)
  refine gj_iload_n C (pc' := 1) (i := 0) rfl dJ6_bitCount_0f7a4_0 rfl rfl ?_
  refine gj_iload_n C (pc' := 2) (i := 0) rfl dJ6_bitCount_0f7a4_1 rfl rfl ?_
  refine gj_iconst C (pc' := 3) (v := 1) rfl dJ6_bitCount_0f7a4_2 (by decide) ?_
  refine gj_iushr C (pc' := 4) rfl dJ6_bitCount_0f7a4_3 ?_
  refine gj_ldc_w C (pc' := 7) rfl dJ6_bitCount_0f7a4_4 wk_J6_265 ?_
  refine gj_iand C (pc' := 8) rfl dJ6_bitCount_0f7a4_7 ?_
  refine gj_isub C (pc' := 9) rfl dJ6_bitCount_0f7a4_8 ?_
  refine gj_istore_n C (pc' := 10) (i := 0) (lv' := [_]) rfl dJ6_bitCount_0f7a4_9 rfl (by decide) rfl rfl ?_
  refine gj_iload_n C (pc' := 11) (i := 0) rfl dJ6_bitCount_0f7a4_10 rfl rfl ?_
  refine gj_ldc_w C (pc' := 14) rfl dJ6_bitCount_0f7a4_11 wk_J6_266 ?_
  refine gj_iand C (pc' := 15) rfl dJ6_bitCount_0f7a4_14 ?_
  refine gj_iload_n C (pc' := 16) (i := 0) rfl dJ6_bitCount_0f7a4_15 rfl rfl ?_
  refine gj_iconst C (pc' := 17) (v := 2) rfl dJ6_bitCount_0f7a4_16 (by decide) ?_
  refine gj_iushr C (pc' := 18) rfl dJ6_bitCount_0f7a4_17 ?_
  refine gj_ldc_w C (pc' := 21) rfl dJ6_bitCount_0f7a4_18 wk_J6_266 ?_
  refine gj_iand C (pc' := 22) rfl dJ6_bitCount_0f7a4_21 ?_
  refine gj_iadd C (pc' := 23) rfl dJ6_bitCount_0f7a4_22 ?_
  refine gj_istore_n C (pc' := 24) (i := 0) (lv' := [_]) rfl dJ6_bitCount_0f7a4_23 rfl (by decide) rfl rfl ?_
  refine gj_iload_n C (pc' := 25) (i := 0) rfl dJ6_bitCount_0f7a4_24 rfl rfl ?_
  refine gj_iload_n C (pc' := 26) (i := 0) rfl dJ6_bitCount_0f7a4_25 rfl rfl ?_
  refine gj_iconst C (pc' := 27) (v := 4) rfl dJ6_bitCount_0f7a4_26 (by decide) ?_
  refine gj_iushr C (pc' := 28) rfl dJ6_bitCount_0f7a4_27 ?_
  refine gj_iadd C (pc' := 29) rfl dJ6_bitCount_0f7a4_28 ?_
  refine gj_ldc_w C (pc' := 32) rfl dJ6_bitCount_0f7a4_29 wk_J6_267 ?_
  refine gj_iand C (pc' := 33) rfl dJ6_bitCount_0f7a4_32 ?_
  refine gj_istore_n C (pc' := 34) (i := 0) (lv' := [_]) rfl dJ6_bitCount_0f7a4_33 rfl (by decide) rfl rfl ?_
  refine gj_iload_n C (pc' := 35) (i := 0) rfl dJ6_bitCount_0f7a4_34 rfl rfl ?_
  refine gj_iload_n C (pc' := 36) (i := 0) rfl dJ6_bitCount_0f7a4_35 rfl rfl ?_
  refine gj_bipush C (pc' := 38) (v := 8) rfl dJ6_bitCount_0f7a4_36 (by decide) ?_
  refine gj_iushr C (pc' := 39) rfl dJ6_bitCount_0f7a4_38 ?_
  refine gj_iadd C (pc' := 40) rfl dJ6_bitCount_0f7a4_39 ?_
  refine gj_istore_n C (pc' := 41) (i := 0) (lv' := [_]) rfl dJ6_bitCount_0f7a4_40 rfl (by decide) rfl rfl ?_
  refine gj_iload_n C (pc' := 42) (i := 0) rfl dJ6_bitCount_0f7a4_41 rfl rfl ?_
  refine gj_iload_n C (pc' := 43) (i := 0) rfl dJ6_bitCount_0f7a4_42 rfl rfl ?_
  refine gj_bipush C (pc' := 45) (v := 16) rfl dJ6_bitCount_0f7a4_43 (by decide) ?_
  refine gj_iushr C (pc' := 46) rfl dJ6_bitCount_0f7a4_45 ?_
  refine gj_iadd C (pc' := 47) rfl dJ6_bitCount_0f7a4_46 ?_
  refine gj_istore_n C (pc' := 48) (i := 0) (lv' := [_]) rfl dJ6_bitCount_0f7a4_47 rfl (by decide) rfl rfl ?_
  refine gj_iload_n C (pc' := 49) (i := 0) rfl dJ6_bitCount_0f7a4_48 rfl rfl ?_
  refine gj_bipush C (pc' := 51) (v := 63) rfl dJ6_bitCount_0f7a4_49 (by decide) ?_
  refine gj_iand C (pc' := 52) rfl dJ6_bitCount_0f7a4_51 ?_
  exact gj_iret C dJ6_bitCount_0f7a4_52 h
set_option maxHeartbeats 4000000 in
set_option maxRecDepth 100000 in
theorem kX6_isFewer_15 {p : Program} {l : Launch} {e : Env} {s : State} {m : MethodId} {args : Array Value} {below : List Frame} {meth : Method} {c : Code} {D : va_G} {ad : Nat → Nat} {tc : Nat → ClassId} {A : Nat → Prop} (C : gj_C p s m args meth c D ad tc A cX6_isFewer 3 (some .boolean) RX6) {r : Int32} {w1 : ab_W} {w : ab_W} (h : sX6_isFewer_15  w = some (r, w1)) : gj_G p l e (gj_R 1) s m args below meth c D ad tc A 3 (gj_Qi D ad tc A below args s r w1) 15 [none, none, none] [] w := by
  unfold sX6_isFewer_15 at h
  refine gj_iconst C (pc' := 16) (v := 1) rfl dX6_isFewer_15 (by decide) ?_
  refine gj_goto C (tgt := 20) dX6_isFewer_16 rfl ?_
  exact gj_zret C dX6_isFewer_20 h
set_option maxHeartbeats 4000000 in
set_option maxRecDepth 100000 in
theorem kX6_isFewer : ∀ (x0 : Nat) (x1 : Int32) (x2 : Int32) (w : ab_W) (r : Int32) (w1 : ab_W), sX6_isFewer x0 x1 x2 w = some (r, w1) → gj_Mi yX6_isFewer cX6_isFewer 3 (some .boolean) 1 [.ref x0, .int x1, .int x2] w r w1 ∧ ab_is w 6 x0 = true := by
  intro x0 x1 x2 w r w1 h
  unfold sX6_isFewer at h
  obtain ⟨hi, h⟩ := ab_ite h
  refine ⟨?_, hi⟩
  refine gj_Mi_of RX6 [some (.ref x0), some (.int x1), some (.int x2)] (by decide +kernel) rfl (Nat.le_of_ble_eq_true rfl) rfl (fun p l e s m args below meth c D ad tc A C => ?_)
  refine gj_iload_n C (pc' := 1) (i := 2) rfl dX6_isFewer_0 rfl rfl ?_
  refine gj_if_lt C (pc' := 4) (tgt := 15) rfl dX6_isFewer_1 rfl h (fun h => ?_) (fun h => ?_)
  · refine gj_drop (lv' := [none, none, none]) True.intro ?_
    exact kX6_isFewer_15 C h
  · refine gj_iload_n C (pc' := 5) (i := 1) rfl dX6_isFewer_4 rfl rfl ?_
    refine gj_callSi C (pc' := 8) rfl dX6_isFewer_5 wm_X6_56 uJ6_bitCount_0f7a4 h (kJ6_bitCount_0f7a4 _ _) (by omega) rfl rfl (Nat.le_of_ble_eq_true rfl) (fun v1 w2 h => ?_)
    refine gj_iload_n C (pc' := 9) (i := 2) rfl dX6_isFewer_8 rfl rfl ?_
    refine gj_callSi C (pc' := 12) rfl dX6_isFewer_9 wm_X6_56 uJ6_bitCount_0f7a4 h (kJ6_bitCount_0f7a4 _ _) (by omega) rfl rfl (Nat.le_of_ble_eq_true rfl) (fun v3 w4 h => ?_)
    refine gj_icmp_ge C (pc' := 15) (tgt := 19) rfl dX6_isFewer_12 rfl h (fun h => ?_) (fun h => ?_)
    · refine gj_drop (lv' := [none, none, none]) True.intro ?_
      exact kX6_isFewer_15 C h
    · refine gj_iconst C (pc' := 20) (v := 0) rfl dX6_isFewer_19 (by decide) ?_
      exact gj_zret C dX6_isFewer_20 h
set_option maxHeartbeats 4000000 in
set_option maxRecDepth 100000 in
theorem kX6_fewestCreases_48 {p : Program} {l : Launch} {e : Env} {s : State} {m : MethodId} {args : Array Value} {below : List Frame} {meth : Method} {c : Code} {D : va_G} {ad : Nat → Nat} {tc : Nat → ClassId} {A : Nat → Prop} (C : gj_C p s m args meth c D ad tc A cX6_fewestCreases 5 (some .int) RX6) {r : Int32} {w1 : ab_W} {k5 : Nat → Int32 → Int32 → Int32 → Int32 → ab_W → Option (Int32 × ab_W)} (hk5 : ∀ {x0 : Nat} {x1 : Int32} {x2 : Int32} {x3 : Int32} {x4 : Int32} {w : ab_W}, k5 x0 x1 x2 x3 x4 w = some (r, w1) → gj_G p l e (gj_R 2) s m args below meth c D ad tc A 5 (gj_Qi D ad tc A below args s r w1) 5 [some (.ref x0), some (.int x1), some (.int x2), some (.int x3), some (.int x4)] [] w) {x0 : Nat} {x1 : Int32} {x2 : Int32} {x3 : Int32} {x4 : Int32} {w : ab_W} (h : sX6_fewestCreases_48 k5 x0 x1 x2 x3 x4 w = some (r, w1)) : gj_G p l e (gj_R 2) s m args below meth c D ad tc A 5 (gj_Qi D ad tc A below args s r w1) 48 [some (.ref x0), some (.int x1), some (.int x2), some (.int x3), some (.int x4)] [] w := by
  unfold sX6_fewestCreases_48 at h
  refine gj_iinc C (pc' := 51) (i := 4) (v := _ + 1) (lv' := [_, _, _, _, _]) rfl dX6_fewestCreases_48 rfl rfl (by decide) rfl rfl ?_
  refine gj_goto C (tgt := 5) dX6_fewestCreases_51 rfl ?_
  refine gj_drop (lv' := [some _, some _, some _, some _, some _]) (And.intro rfl (And.intro rfl (And.intro rfl (And.intro rfl (And.intro rfl True.intro))))) ?_
  exact hk5 h
set_option maxHeartbeats 4000000 in
set_option maxRecDepth 100000 in
theorem kX6_fewestCreases_5 {p : Program} {l : Launch} {e : Env} {s : State} {m : MethodId} {args : Array Value} {below : List Frame} {meth : Method} {c : Code} {D : va_G} {ad : Nat → Nat} {tc : Nat → ClassId} {A : Nat → Prop} (C : gj_C p s m args meth c D ad tc A cX6_fewestCreases 5 (some .int) RX6) {r : Int32} {w1 : ab_W} : ∀ {n : Nat} {x0 : Nat} {x1 : Int32} {x2 : Int32} {x3 : Int32} {x4 : Int32} {w : ab_W}, sX6_fewestCreases_5 n x0 x1 x2 x3 x4 w = some (r, w1) → gj_G p l e (gj_R 2) s m args below meth c D ad tc A 5 (gj_Qi D ad tc A below args s r w1) 5 [some (.ref x0), some (.int x1), some (.int x2), some (.int x3), some (.int x4)] [] w := by
  intro n
  induction n with
  | zero =>
    intros
    rename_i h
    cases h
  | succ n ih =>
    intro x0 x1 x2 x3 x4 w h
    rw [sX6_fewestCreases_5] at h
    refine gj_iload C (pc' := 7) (i := 4) rfl dX6_fewestCreases_5 rfl ?_
    refine gj_sipush C (pc' := 10) (v := 128) rfl dX6_fewestCreases_7 (by decide) ?_
    refine gj_icmp_ge C (pc' := 13) (tgt := 54) rfl dX6_fewestCreases_10 rfl h (fun h => ?_) (fun h => ?_)
    · refine gj_aload_n C (pc' := 14) (i := 0) rfl dX6_fewestCreases_13 rfl rfl ?_
      refine gj_getR C (pc' := 17) rfl dX6_fewestCreases_14 wf_X6_9 h (fun v1 h => ?_)
      refine gj_iload C (pc' := 19) (i := 4) rfl dX6_fewestCreases_17 rfl ?_
      refine gj_iald C (pc' := 20) rfl dX6_fewestCreases_19 h (fun v2 h => ?_)
      refine gj_iload_n C (pc' := 21) (i := 1) rfl dX6_fewestCreases_20 rfl rfl ?_
      refine gj_icmp_gt C (pc' := 24) (tgt := 48) rfl dX6_fewestCreases_21 rfl h (fun h => ?_) (fun h => ?_)
      · refine gj_drop (lv' := [some _, some _, some _, some _, some _]) (And.intro rfl (And.intro rfl (And.intro rfl (And.intro rfl (And.intro rfl True.intro))))) ?_
        exact kX6_fewestCreases_48 C (fun h => ih h) h
      · refine gj_aload_n C (pc' := 25) (i := 0) rfl dX6_fewestCreases_24 rfl rfl ?_
        refine gj_getR C (pc' := 28) rfl dX6_fewestCreases_25 wf_X6_15 h (fun v3 h => ?_)
        refine gj_iload C (pc' := 30) (i := 4) rfl dX6_fewestCreases_28 rfl ?_
        refine gj_iald C (pc' := 31) rfl dX6_fewestCreases_30 h (fun v4 h => ?_)
        refine gj_iload_n C (pc' := 32) (i := 2) rfl dX6_fewestCreases_31 rfl rfl ?_
        refine gj_icmp_gt C (pc' := 35) (tgt := 48) rfl dX6_fewestCreases_32 rfl h (fun h => ?_) (fun h => ?_)
        · refine gj_drop (lv' := [some _, some _, some _, some _, some _]) (And.intro rfl (And.intro rfl (And.intro rfl (And.intro rfl (And.intro rfl True.intro))))) ?_
          exact kX6_fewestCreases_48 C (fun h => ih h) h
        · refine gj_aload_n C (pc' := 36) (i := 0) rfl dX6_fewestCreases_35 rfl rfl ?_
          refine gj_iload C (pc' := 38) (i := 4) rfl dX6_fewestCreases_36 rfl ?_
          refine gj_iload_n C (pc' := 39) (i := 3) rfl dX6_fewestCreases_38 rfl rfl ?_
          refine gj_callVi C (pc' := 42) rfl dX6_fewestCreases_39 wm_X6_52 uX6_isFewer h (kX6_isFewer _ _ _ _) (by omega) rfl rfl (Nat.le_of_ble_eq_true rfl) (fun v5 w6 h => ?_)
          refine gj_if_eq C (pc' := 45) (tgt := 48) rfl dX6_fewestCreases_42 rfl h (fun h => ?_) (fun h => ?_)
          · refine gj_drop (lv' := [some _, some _, some _, some _, some _]) (And.intro rfl (And.intro rfl (And.intro rfl (And.intro rfl (And.intro rfl True.intro))))) ?_
            exact kX6_fewestCreases_48 C (fun h => ih h) h
          · refine gj_iload C (pc' := 47) (i := 4) rfl dX6_fewestCreases_45 rfl ?_
            refine gj_istore_n C (pc' := 48) (i := 3) (lv' := [_, _, _, _, _]) rfl dX6_fewestCreases_47 rfl (by decide) rfl rfl ?_
            refine gj_drop (lv' := [some _, some _, some _, some _, some _]) (And.intro rfl (And.intro rfl (And.intro rfl (And.intro rfl (And.intro rfl True.intro))))) ?_
            exact kX6_fewestCreases_48 C (fun h => ih h) h
    · refine gj_iload_n C (pc' := 55) (i := 3) rfl dX6_fewestCreases_54 rfl rfl ?_
      exact gj_iret C dX6_fewestCreases_55 h
set_option maxHeartbeats 4000000 in
set_option maxRecDepth 100000 in
theorem kX6_fewestCreases : ∀ (x0 : Nat) (x1 : Int32) (x2 : Int32) (w : ab_W) (r : Int32) (w1 : ab_W), sX6_fewestCreases x0 x1 x2 w = some (r, w1) → gj_Mi yX6_fewestCreases cX6_fewestCreases 5 (some .int) 2 [.ref x0, .int x1, .int x2] w r w1 ∧ ab_is w 6 x0 = true := by
  intro x0 x1 x2 w r w1 h
  unfold sX6_fewestCreases at h
  obtain ⟨hi, h⟩ := ab_ite h
  refine ⟨?_, hi⟩
  refine gj_Mi_of RX6 [some (.ref x0), some (.int x1), some (.int x2), none, none] (by decide +kernel) rfl (Nat.le_of_ble_eq_true rfl) rfl (fun p l e s m args below meth c D ad tc A C => ?_)
  refine gj_iconst C (pc' := 1) (v := (-1)) rfl dX6_fewestCreases_0 (by decide) ?_
  refine gj_istore_n C (pc' := 2) (i := 3) (lv' := [_, _, _, _, _]) rfl dX6_fewestCreases_1 rfl (by decide) rfl rfl ?_
  refine gj_iconst C (pc' := 3) (v := 0) rfl dX6_fewestCreases_2 (by decide) ?_
  refine gj_istore C (pc' := 5) (i := 4) (lv' := [_, _, _, _, _]) rfl dX6_fewestCreases_3 (by decide) rfl rfl ?_
  refine gj_drop (lv' := [some _, some _, some _, some _, some _]) (And.intro rfl (And.intro rfl (And.intro rfl (And.intro rfl (And.intro rfl True.intro))))) ?_
  exact kX6_fewestCreases_5 C h
set_option maxHeartbeats 4000000 in
set_option maxRecDepth 100000 in
theorem kX9_orNone : ∀ (x0 : Nat) (x1 : Int32) (w : ab_W) (r : Int32) (w1 : ab_W), sX9_orNone x0 x1 w = some (r, w1) → gj_Mi yX9_orNone cX9_orNone 2 (some .int) 2 [.ref x0, .int x1] w r w1 ∧ ab_is w 9 x0 = true := by
  intro x0 x1 w r w1 h
  unfold sX9_orNone at h
  obtain ⟨hi, h⟩ := ab_ite h
  refine ⟨?_, hi⟩
  refine gj_Mi_of RX9 [some (.ref x0), some (.int x1)] (by decide +kernel) rfl (Nat.le_of_ble_eq_true rfl) rfl (fun p l e s m args below meth c D ad tc A C => ?_)
  refine gj_iload_n C (pc' := 1) (i := 1) rfl dX9_orNone_0 rfl rfl ?_
  refine gj_if_ge C (pc' := 4) (tgt := 12) rfl dX9_orNone_1 rfl h (fun h => ?_) (fun h => ?_)
  · refine gj_aload_n C (pc' := 5) (i := 0) rfl dX9_orNone_4 rfl rfl ?_
    refine gj_iconst C (pc' := 6) (v := 2) rfl dX9_orNone_5 (by decide) ?_
    refine gj_callVi C (pc' := 9) rfl dX9_orNone_6 wm_X9_66 uX9_fail h (kX9_fail _ _ _) (by omega) rfl rfl (Nat.le_of_ble_eq_true rfl) (fun v1 w2 h => ?_)
    refine gj_goto C (tgt := 13) dX9_orNone_9 rfl ?_
    exact gj_iret C dX9_orNone_13 h
  · refine gj_iload_n C (pc' := 13) (i := 1) rfl dX9_orNone_12 rfl rfl ?_
    exact gj_iret C dX9_orNone_13 h
set_option maxHeartbeats 4000000 in
set_option maxRecDepth 100000 in
theorem kX9_least_20 {p : Program} {l : Launch} {e : Env} {s : State} {m : MethodId} {args : Array Value} {below : List Frame} {meth : Method} {c : Code} {D : va_G} {ad : Nat → Nat} {tc : Nat → ClassId} {A : Nat → Prop} (C : gj_C p s m args meth c D ad tc A cX9_least 3 (some .int) RX9) {r : Int32} {w1 : ab_W} {x0 : Nat} {w : ab_W} (h : sX9_least_20 x0 w = some (r, w1)) : gj_G p l e (gj_R 3) s m args below meth c D ad tc A 3 (gj_Qi D ad tc A below args s r w1) 20 [some (.ref x0), none, none] [] w := by
  unfold sX9_least_20 at h
  refine gj_aload_n C (pc' := 21) (i := 0) rfl dX9_least_20 rfl rfl ?_
  refine gj_iconst C (pc' := 22) (v := 1) rfl dX9_least_21 (by decide) ?_
  refine gj_callVi C (pc' := 25) rfl dX9_least_22 wm_X9_66 uX9_fail h (kX9_fail _ _ _) (by omega) rfl rfl (Nat.le_of_ble_eq_true rfl) (fun v1 w2 h => ?_)
  exact gj_iret C dX9_least_25 h
set_option maxHeartbeats 4000000 in
set_option maxRecDepth 100000 in
theorem kX9_least : ∀ (x0 : Nat) (x1 : Int32) (x2 : Int32) (w : ab_W) (r : Int32) (w1 : ab_W), sX9_least x0 x1 x2 w = some (r, w1) → gj_Mi yX9_least cX9_least 3 (some .int) 3 [.ref x0, .int x1, .int x2] w r w1 ∧ ab_is w 9 x0 = true := by
  intro x0 x1 x2 w r w1 h
  unfold sX9_least at h
  obtain ⟨hi, h⟩ := ab_ite h
  refine ⟨?_, hi⟩
  refine gj_Mi_of RX9 [some (.ref x0), some (.int x1), some (.int x2)] (by decide +kernel) rfl (Nat.le_of_ble_eq_true rfl) rfl (fun p l e s m args below meth c D ad tc A C => ?_)
  refine gj_iload_n C (pc' := 1) (i := 1) rfl dX9_least_0 rfl rfl ?_
  refine gj_iconst C (pc' := 2) (v := 1) rfl dX9_least_1 (by decide) ?_
  refine gj_bipush C (pc' := 4) (v := 8) rfl dX9_least_2 (by decide) ?_
  refine gj_callSi C (pc' := 7) rfl dX9_least_4 wm_X9_62 uX9_within h (kX9_within _ _ _ _) (by omega) rfl rfl (Nat.le_of_ble_eq_true rfl) (fun v1 w2 h => ?_)
  refine gj_if_eq C (pc' := 10) (tgt := 20) rfl dX9_least_7 rfl h (fun h => ?_) (fun h => ?_)
  · refine gj_drop (lv' := [some _, none, none]) (And.intro rfl True.intro) ?_
    exact kX9_least_20 C h
  · refine gj_iload_n C (pc' := 11) (i := 2) rfl dX9_least_10 rfl rfl ?_
    refine gj_iconst C (pc' := 12) (v := 1) rfl dX9_least_11 (by decide) ?_
    refine gj_bipush C (pc' := 14) (v := 8) rfl dX9_least_12 (by decide) ?_
    refine gj_callSi C (pc' := 17) rfl dX9_least_14 wm_X9_62 uX9_within h (kX9_within _ _ _ _) (by omega) rfl rfl (Nat.le_of_ble_eq_true rfl) (fun v3 w4 h => ?_)
    refine gj_if_ne C (pc' := 20) (tgt := 26) rfl dX9_least_17 rfl h (fun h => ?_) (fun h => ?_)
    · refine gj_drop (lv' := [some _, none, none]) (And.intro rfl True.intro) ?_
      exact kX9_least_20 C h
    · refine gj_aload_n C (pc' := 27) (i := 0) rfl dX9_least_26 rfl rfl ?_
      refine gj_aload_n C (pc' := 28) (i := 0) rfl dX9_least_27 rfl rfl ?_
      refine gj_getR C (pc' := 31) rfl dX9_least_28 wf_X9_23 h (fun v5 h => ?_)
      refine gj_iload_n C (pc' := 32) (i := 1) rfl dX9_least_31 rfl rfl ?_
      refine gj_iload_n C (pc' := 33) (i := 2) rfl dX9_least_32 rfl rfl ?_
      refine gj_callVi C (pc' := 36) rfl dX9_least_33 wm_X9_176 uX6_fewestCreases h (kX6_fewestCreases _ _ _ _) (by omega) rfl rfl (Nat.le_of_ble_eq_true rfl) (fun v6 w7 h => ?_)
      refine gj_callVi C (pc' := 39) rfl dX9_least_36 wm_X9_179 uX9_orNone h (kX9_orNone _ _ _) (by omega) rfl rfl (Nat.le_of_ble_eq_true rfl) (fun v8 w9 h => ?_)
      exact gj_iret C dX9_least_39 h
set_option maxHeartbeats 4000000 in
set_option maxRecDepth 100000 in
theorem kX6_howMany_38 {p : Program} {l : Launch} {e : Env} {s : State} {m : MethodId} {args : Array Value} {below : List Frame} {meth : Method} {c : Code} {D : va_G} {ad : Nat → Nat} {tc : Nat → ClassId} {A : Nat → Prop} (C : gj_C p s m args meth c D ad tc A cX6_howMany 5 (some .int) RX6) {r : Int32} {w1 : ab_W} {k5 : Nat → Int32 → Int32 → Int32 → Int32 → ab_W → Option (Int32 × ab_W)} (hk5 : ∀ {x0 : Nat} {x1 : Int32} {x2 : Int32} {x3 : Int32} {x4 : Int32} {w : ab_W}, k5 x0 x1 x2 x3 x4 w = some (r, w1) → gj_G p l e (gj_R 0) s m args below meth c D ad tc A 5 (gj_Qi D ad tc A below args s r w1) 5 [some (.ref x0), some (.int x1), some (.int x2), some (.int x3), some (.int x4)] [] w) {x0 : Nat} {x1 : Int32} {x2 : Int32} {x3 : Int32} {x4 : Int32} {w : ab_W} (h : sX6_howMany_38 k5 x0 x1 x2 x3 x4 w = some (r, w1)) : gj_G p l e (gj_R 0) s m args below meth c D ad tc A 5 (gj_Qi D ad tc A below args s r w1) 38 [some (.ref x0), some (.int x1), some (.int x2), some (.int x3), some (.int x4)] [] w := by
  unfold sX6_howMany_38 at h
  refine gj_iinc C (pc' := 41) (i := 4) (v := _ + 1) (lv' := [_, _, _, _, _]) rfl dX6_howMany_38 rfl rfl (by decide) rfl rfl ?_
  refine gj_goto C (tgt := 5) dX6_howMany_41 rfl ?_
  refine gj_drop (lv' := [some _, some _, some _, some _, some _]) (And.intro rfl (And.intro rfl (And.intro rfl (And.intro rfl (And.intro rfl True.intro))))) ?_
  exact hk5 h
set_option maxHeartbeats 4000000 in
set_option maxRecDepth 100000 in
theorem kX6_howMany_5 {p : Program} {l : Launch} {e : Env} {s : State} {m : MethodId} {args : Array Value} {below : List Frame} {meth : Method} {c : Code} {D : va_G} {ad : Nat → Nat} {tc : Nat → ClassId} {A : Nat → Prop} (C : gj_C p s m args meth c D ad tc A cX6_howMany 5 (some .int) RX6) {r : Int32} {w1 : ab_W} : ∀ {n : Nat} {x0 : Nat} {x1 : Int32} {x2 : Int32} {x3 : Int32} {x4 : Int32} {w : ab_W}, sX6_howMany_5 n x0 x1 x2 x3 x4 w = some (r, w1) → gj_G p l e (gj_R 0) s m args below meth c D ad tc A 5 (gj_Qi D ad tc A below args s r w1) 5 [some (.ref x0), some (.int x1), some (.int x2), some (.int x3), some (.int x4)] [] w := by
  intro n
  induction n with
  | zero =>
    intros
    rename_i h
    cases h
  | succ n ih =>
    intro x0 x1 x2 x3 x4 w h
    rw [sX6_howMany_5] at h
    refine gj_iload C (pc' := 7) (i := 4) rfl dX6_howMany_5 rfl ?_
    refine gj_sipush C (pc' := 10) (v := 128) rfl dX6_howMany_7 (by decide) ?_
    refine gj_icmp_ge C (pc' := 13) (tgt := 44) rfl dX6_howMany_10 rfl h (fun h => ?_) (fun h => ?_)
    · refine gj_aload_n C (pc' := 14) (i := 0) rfl dX6_howMany_13 rfl rfl ?_
      refine gj_getR C (pc' := 17) rfl dX6_howMany_14 wf_X6_9 h (fun v1 h => ?_)
      refine gj_iload C (pc' := 19) (i := 4) rfl dX6_howMany_17 rfl ?_
      refine gj_iald C (pc' := 20) rfl dX6_howMany_19 h (fun v2 h => ?_)
      refine gj_iload_n C (pc' := 21) (i := 1) rfl dX6_howMany_20 rfl rfl ?_
      refine gj_icmp_ne C (pc' := 24) (tgt := 38) rfl dX6_howMany_21 rfl h (fun h => ?_) (fun h => ?_)
      · refine gj_aload_n C (pc' := 25) (i := 0) rfl dX6_howMany_24 rfl rfl ?_
        refine gj_getR C (pc' := 28) rfl dX6_howMany_25 wf_X6_15 h (fun v3 h => ?_)
        refine gj_iload C (pc' := 30) (i := 4) rfl dX6_howMany_28 rfl ?_
        refine gj_iald C (pc' := 31) rfl dX6_howMany_30 h (fun v4 h => ?_)
        refine gj_iload_n C (pc' := 32) (i := 2) rfl dX6_howMany_31 rfl rfl ?_
        refine gj_icmp_ne C (pc' := 35) (tgt := 38) rfl dX6_howMany_32 rfl h (fun h => ?_) (fun h => ?_)
        · refine gj_iinc C (pc' := 38) (i := 3) (v := _ + 1) (lv' := [_, _, _, _, _]) rfl dX6_howMany_35 rfl rfl (by decide) rfl rfl ?_
          refine gj_drop (lv' := [some _, some _, some _, some _, some _]) (And.intro rfl (And.intro rfl (And.intro rfl (And.intro rfl (And.intro rfl True.intro))))) ?_
          exact kX6_howMany_38 C (fun h => ih h) h
        · refine gj_drop (lv' := [some _, some _, some _, some _, some _]) (And.intro rfl (And.intro rfl (And.intro rfl (And.intro rfl (And.intro rfl True.intro))))) ?_
          exact kX6_howMany_38 C (fun h => ih h) h
      · refine gj_drop (lv' := [some _, some _, some _, some _, some _]) (And.intro rfl (And.intro rfl (And.intro rfl (And.intro rfl (And.intro rfl True.intro))))) ?_
        exact kX6_howMany_38 C (fun h => ih h) h
    · refine gj_iload_n C (pc' := 45) (i := 3) rfl dX6_howMany_44 rfl rfl ?_
      exact gj_iret C dX6_howMany_45 h
set_option maxHeartbeats 4000000 in
set_option maxRecDepth 100000 in
theorem kX6_howMany : ∀ (x0 : Nat) (x1 : Int32) (x2 : Int32) (w : ab_W) (r : Int32) (w1 : ab_W), sX6_howMany x0 x1 x2 w = some (r, w1) → gj_Mi yX6_howMany cX6_howMany 5 (some .int) 0 [.ref x0, .int x1, .int x2] w r w1 ∧ ab_is w 6 x0 = true := by
  intro x0 x1 x2 w r w1 h
  unfold sX6_howMany at h
  obtain ⟨hi, h⟩ := ab_ite h
  refine ⟨?_, hi⟩
  refine gj_Mi_of RX6 [some (.ref x0), some (.int x1), some (.int x2), none, none] (by decide +kernel) rfl (Nat.le_of_ble_eq_true rfl) rfl (fun p l e s m args below meth c D ad tc A C => ?_)
  refine gj_iconst C (pc' := 1) (v := 0) rfl dX6_howMany_0 (by decide) ?_
  refine gj_istore_n C (pc' := 2) (i := 3) (lv' := [_, _, _, _, _]) rfl dX6_howMany_1 rfl (by decide) rfl rfl ?_
  refine gj_iconst C (pc' := 3) (v := 0) rfl dX6_howMany_2 (by decide) ?_
  refine gj_istore C (pc' := 5) (i := 4) (lv' := [_, _, _, _, _]) rfl dX6_howMany_3 (by decide) rfl rfl ?_
  refine gj_drop (lv' := [some _, some _, some _, some _, some _]) (And.intro rfl (And.intro rfl (And.intro rfl (And.intro rfl (And.intro rfl True.intro))))) ?_
  exact kX6_howMany_5 C h
set_option maxHeartbeats 4000000 in
set_option maxRecDepth 100000 in
theorem kX6_leastOf_31 {p : Program} {l : Launch} {e : Env} {s : State} {m : MethodId} {args : Array Value} {below : List Frame} {meth : Method} {c : Code} {D : va_G} {ad : Nat → Nat} {tc : Nat → ClassId} {A : Nat → Prop} (C : gj_C p s m args meth c D ad tc A cX6_leastOf 4 (some .int) RX6) {r : Int32} {w1 : ab_W} {k2 : Nat → Int32 → Int32 → Int32 → ab_W → Option (Int32 × ab_W)} (hk2 : ∀ {x0 : Nat} {x1 : Int32} {x2 : Int32} {x3 : Int32} {w : ab_W}, k2 x0 x1 x2 x3 w = some (r, w1) → gj_G p l e (gj_R 0) s m args below meth c D ad tc A 4 (gj_Qi D ad tc A below args s r w1) 2 [some (.ref x0), some (.int x1), some (.int x2), some (.int x3)] [] w) {x0 : Nat} {x1 : Int32} {x2 : Int32} {x3 : Int32} {w : ab_W} (h : sX6_leastOf_31 k2 x0 x1 x2 x3 w = some (r, w1)) : gj_G p l e (gj_R 0) s m args below meth c D ad tc A 4 (gj_Qi D ad tc A below args s r w1) 31 [some (.ref x0), some (.int x1), some (.int x2), some (.int x3)] [] w := by
  unfold sX6_leastOf_31 at h
  refine gj_iinc C (pc' := 34) (i := 3) (v := _ + 1) (lv' := [_, _, _, _]) rfl dX6_leastOf_31 rfl rfl (by decide) rfl rfl ?_
  refine gj_goto C (tgt := 2) dX6_leastOf_34 rfl ?_
  refine gj_drop (lv' := [some _, some _, some _, some _]) (And.intro rfl (And.intro rfl (And.intro rfl (And.intro rfl True.intro)))) ?_
  exact hk2 h
set_option maxHeartbeats 4000000 in
set_option maxRecDepth 100000 in
theorem kX6_leastOf_2 {p : Program} {l : Launch} {e : Env} {s : State} {m : MethodId} {args : Array Value} {below : List Frame} {meth : Method} {c : Code} {D : va_G} {ad : Nat → Nat} {tc : Nat → ClassId} {A : Nat → Prop} (C : gj_C p s m args meth c D ad tc A cX6_leastOf 4 (some .int) RX6) {r : Int32} {w1 : ab_W} : ∀ {n : Nat} {x0 : Nat} {x1 : Int32} {x2 : Int32} {x3 : Int32} {w : ab_W}, sX6_leastOf_2 n x0 x1 x2 x3 w = some (r, w1) → gj_G p l e (gj_R 0) s m args below meth c D ad tc A 4 (gj_Qi D ad tc A below args s r w1) 2 [some (.ref x0), some (.int x1), some (.int x2), some (.int x3)] [] w := by
  intro n
  induction n with
  | zero =>
    intros
    rename_i h
    cases h
  | succ n ih =>
    intro x0 x1 x2 x3 w h
    rw [sX6_leastOf_2] at h
    refine gj_iload_n C (pc' := 3) (i := 3) rfl dX6_leastOf_2 rfl rfl ?_
    refine gj_sipush C (pc' := 6) (v := 128) rfl dX6_leastOf_3 (by decide) ?_
    refine gj_icmp_ge C (pc' := 9) (tgt := 37) rfl dX6_leastOf_6 rfl h (fun h => ?_) (fun h => ?_)
    · refine gj_aload_n C (pc' := 10) (i := 0) rfl dX6_leastOf_9 rfl rfl ?_
      refine gj_getR C (pc' := 13) rfl dX6_leastOf_10 wf_X6_9 h (fun v1 h => ?_)
      refine gj_iload_n C (pc' := 14) (i := 3) rfl dX6_leastOf_13 rfl rfl ?_
      refine gj_iald C (pc' := 15) rfl dX6_leastOf_14 h (fun v2 h => ?_)
      refine gj_iload_n C (pc' := 16) (i := 1) rfl dX6_leastOf_15 rfl rfl ?_
      refine gj_icmp_ne C (pc' := 19) (tgt := 31) rfl dX6_leastOf_16 rfl h (fun h => ?_) (fun h => ?_)
      · refine gj_aload_n C (pc' := 20) (i := 0) rfl dX6_leastOf_19 rfl rfl ?_
        refine gj_getR C (pc' := 23) rfl dX6_leastOf_20 wf_X6_15 h (fun v3 h => ?_)
        refine gj_iload_n C (pc' := 24) (i := 3) rfl dX6_leastOf_23 rfl rfl ?_
        refine gj_iald C (pc' := 25) rfl dX6_leastOf_24 h (fun v4 h => ?_)
        refine gj_iload_n C (pc' := 26) (i := 2) rfl dX6_leastOf_25 rfl rfl ?_
        refine gj_icmp_ne C (pc' := 29) (tgt := 31) rfl dX6_leastOf_26 rfl h (fun h => ?_) (fun h => ?_)
        · refine gj_iload_n C (pc' := 30) (i := 3) rfl dX6_leastOf_29 rfl rfl ?_
          exact gj_iret C dX6_leastOf_30 h
        · refine gj_drop (lv' := [some _, some _, some _, some _]) (And.intro rfl (And.intro rfl (And.intro rfl (And.intro rfl True.intro)))) ?_
          exact kX6_leastOf_31 C (fun h => ih h) h
      · refine gj_drop (lv' := [some _, some _, some _, some _]) (And.intro rfl (And.intro rfl (And.intro rfl (And.intro rfl True.intro)))) ?_
        exact kX6_leastOf_31 C (fun h => ih h) h
    · refine gj_iconst C (pc' := 38) (v := (-1)) rfl dX6_leastOf_37 (by decide) ?_
      exact gj_iret C dX6_leastOf_38 h
set_option maxHeartbeats 4000000 in
set_option maxRecDepth 100000 in
theorem kX6_leastOf : ∀ (x0 : Nat) (x1 : Int32) (x2 : Int32) (w : ab_W) (r : Int32) (w1 : ab_W), sX6_leastOf x0 x1 x2 w = some (r, w1) → gj_Mi yX6_leastOf cX6_leastOf 4 (some .int) 0 [.ref x0, .int x1, .int x2] w r w1 ∧ ab_is w 6 x0 = true := by
  intro x0 x1 x2 w r w1 h
  unfold sX6_leastOf at h
  obtain ⟨hi, h⟩ := ab_ite h
  refine ⟨?_, hi⟩
  refine gj_Mi_of RX6 [some (.ref x0), some (.int x1), some (.int x2), none] (by decide +kernel) rfl (Nat.le_of_ble_eq_true rfl) rfl (fun p l e s m args below meth c D ad tc A C => ?_)
  refine gj_iconst C (pc' := 1) (v := 0) rfl dX6_leastOf_0 (by decide) ?_
  refine gj_istore_n C (pc' := 2) (i := 3) (lv' := [_, _, _, _]) rfl dX6_leastOf_1 rfl (by decide) rfl rfl ?_
  refine gj_drop (lv' := [some _, some _, some _, some _]) (And.intro rfl (And.intro rfl (And.intro rfl (And.intro rfl True.intro)))) ?_
  exact kX6_leastOf_2 C h
set_option maxHeartbeats 4000000 in
set_option maxRecDepth 100000 in
theorem kX9_shapes_29 {p : Program} {l : Launch} {e : Env} {s : State} {m : MethodId} {args : Array Value} {below : List Frame} {meth : Method} {c : Code} {D : va_G} {ad : Nat → Nat} {tc : Nat → ClassId} {A : Nat → Prop} (C : gj_C p s m args meth c D ad tc A cX9_shapes 4 (some .int) RX9) {r : Int32} {w1 : ab_W} {x0 : Nat} {w : ab_W} (h : sX9_shapes_29 x0 w = some (r, w1)) : gj_G p l e (gj_R 3) s m args below meth c D ad tc A 4 (gj_Qi D ad tc A below args s r w1) 29 [some (.ref x0), none, none, none] [] w := by
  unfold sX9_shapes_29 at h
  refine gj_aload_n C (pc' := 30) (i := 0) rfl dX9_shapes_29 rfl rfl ?_
  refine gj_iconst C (pc' := 31) (v := 1) rfl dX9_shapes_30 (by decide) ?_
  refine gj_callVi C (pc' := 34) rfl dX9_shapes_31 wm_X9_66 uX9_fail h (kX9_fail _ _ _) (by omega) rfl rfl (Nat.le_of_ble_eq_true rfl) (fun v1 w2 h => ?_)
  exact gj_iret C dX9_shapes_34 h
set_option maxHeartbeats 4000000 in
set_option maxRecDepth 100000 in
theorem kX9_shapes : ∀ (x0 : Nat) (x1 : Int32) (x2 : Int32) (x3 : Int32) (w : ab_W) (r : Int32) (w1 : ab_W), sX9_shapes x0 x1 x2 x3 w = some (r, w1) → gj_Mi yX9_shapes cX9_shapes 4 (some .int) 3 [.ref x0, .int x1, .int x2, .int x3] w r w1 ∧ ab_is w 9 x0 = true := by
  intro x0 x1 x2 x3 w r w1 h
  unfold sX9_shapes at h
  obtain ⟨hi, h⟩ := ab_ite h
  refine ⟨?_, hi⟩
  refine gj_Mi_of RX9 [some (.ref x0), some (.int x1), some (.int x2), some (.int x3)] (by decide +kernel) rfl (Nat.le_of_ble_eq_true rfl) rfl (fun p l e s m args below meth c D ad tc A C => ?_)
  refine gj_iload_n C (pc' := 1) (i := 1) rfl dX9_shapes_0 rfl rfl ?_
  refine gj_iconst C (pc' := 2) (v := 1) rfl dX9_shapes_1 (by decide) ?_
  refine gj_bipush C (pc' := 4) (v := 8) rfl dX9_shapes_2 (by decide) ?_
  refine gj_callSi C (pc' := 7) rfl dX9_shapes_4 wm_X9_62 uX9_within h (kX9_within _ _ _ _) (by omega) rfl rfl (Nat.le_of_ble_eq_true rfl) (fun v1 w2 h => ?_)
  refine gj_if_eq C (pc' := 10) (tgt := 29) rfl dX9_shapes_7 rfl h (fun h => ?_) (fun h => ?_)
  · refine gj_drop (lv' := [some _, none, none, none]) (And.intro rfl True.intro) ?_
    exact kX9_shapes_29 C h
  · refine gj_iload_n C (pc' := 11) (i := 2) rfl dX9_shapes_10 rfl rfl ?_
    refine gj_iconst C (pc' := 12) (v := 1) rfl dX9_shapes_11 (by decide) ?_
    refine gj_bipush C (pc' := 14) (v := 8) rfl dX9_shapes_12 (by decide) ?_
    refine gj_callSi C (pc' := 17) rfl dX9_shapes_14 wm_X9_62 uX9_within h (kX9_within _ _ _ _) (by omega) rfl rfl (Nat.le_of_ble_eq_true rfl) (fun v3 w4 h => ?_)
    refine gj_if_eq C (pc' := 20) (tgt := 29) rfl dX9_shapes_17 rfl h (fun h => ?_) (fun h => ?_)
    · refine gj_drop (lv' := [some _, none, none, none]) (And.intro rfl True.intro) ?_
      exact kX9_shapes_29 C h
    · refine gj_iload_n C (pc' := 21) (i := 3) rfl dX9_shapes_20 rfl rfl ?_
      refine gj_iconst C (pc' := 22) (v := 0) rfl dX9_shapes_21 (by decide) ?_
      refine gj_iconst C (pc' := 23) (v := 1) rfl dX9_shapes_22 (by decide) ?_
      refine gj_callSi C (pc' := 26) rfl dX9_shapes_23 wm_X9_62 uX9_within h (kX9_within _ _ _ _) (by omega) rfl rfl (Nat.le_of_ble_eq_true rfl) (fun v5 w6 h => ?_)
      refine gj_if_ne C (pc' := 29) (tgt := 35) rfl dX9_shapes_26 rfl h (fun h => ?_) (fun h => ?_)
      · refine gj_drop (lv' := [some _, none, none, none]) (And.intro rfl True.intro) ?_
        exact kX9_shapes_29 C h
      · refine gj_iload_n C (pc' := 36) (i := 3) rfl dX9_shapes_35 rfl rfl ?_
        refine gj_if_ne C (pc' := 39) (tgt := 51) rfl dX9_shapes_36 rfl h (fun h => ?_) (fun h => ?_)
        · refine gj_aload_n C (pc' := 40) (i := 0) rfl dX9_shapes_39 rfl rfl ?_
          refine gj_getR C (pc' := 43) rfl dX9_shapes_40 wf_X9_23 h (fun v7 h => ?_)
          refine gj_iload_n C (pc' := 44) (i := 1) rfl dX9_shapes_43 rfl rfl ?_
          refine gj_iload_n C (pc' := 45) (i := 2) rfl dX9_shapes_44 rfl rfl ?_
          refine gj_callVi C (pc' := 48) rfl dX9_shapes_45 wm_X9_182 uX6_howMany h (kX6_howMany _ _ _ _) (by omega) rfl rfl (Nat.le_of_ble_eq_true rfl) (fun v8 w9 h => ?_)
          refine gj_goto C (tgt := 64) dX9_shapes_48 rfl ?_
          exact gj_iret C dX9_shapes_64 h
        · refine gj_aload_n C (pc' := 52) (i := 0) rfl dX9_shapes_51 rfl rfl ?_
          refine gj_aload_n C (pc' := 53) (i := 0) rfl dX9_shapes_52 rfl rfl ?_
          refine gj_getR C (pc' := 56) rfl dX9_shapes_53 wf_X9_23 h (fun v10 h => ?_)
          refine gj_iload_n C (pc' := 57) (i := 1) rfl dX9_shapes_56 rfl rfl ?_
          refine gj_iload_n C (pc' := 58) (i := 2) rfl dX9_shapes_57 rfl rfl ?_
          refine gj_callVi C (pc' := 61) rfl dX9_shapes_58 wm_X9_185 uX6_leastOf h (kX6_leastOf _ _ _ _) (by omega) rfl rfl (Nat.le_of_ble_eq_true rfl) (fun v11 w12 h => ?_)
          refine gj_callVi C (pc' := 64) rfl dX9_shapes_61 wm_X9_179 uX9_orNone h (kX9_orNone _ _ _) (by omega) rfl rfl (Nat.le_of_ble_eq_true rfl) (fun v13 w14 h => ?_)
          exact gj_iret C dX9_shapes_64 h
set_option maxHeartbeats 4000000 in
set_option maxRecDepth 100000 in
theorem kJ7_fill_53178_5 {p : Program} {l : Launch} {e : Env} {s : State} {m : MethodId} {args : Array Value} {below : List Frame} {meth : Method} {c : Code} {D : va_G} {ad : Nat → Nat} {tc : Nat → ClassId} {A : Nat → Prop} (C : gj_C p s m args meth c D ad tc A cJ7_fill_53178 4 none RJ7) {w1 : ab_W} : ∀ {n : Nat} {x0 : Nat} {x1 : Int32} {x2 : Int32} {x3 : Int32} {w : ab_W}, sJ7_fill_53178_5 n x0 x1 x2 x3 w = some w1 → gj_G p l e (gj_R 0) s m args below meth c D ad tc A 4 (gj_Qv D ad tc A below args s w1) 5 [some (.ref x0), some (.int x1), some (.int x2), some (.int x3)] [] w := by
  intro n
  induction n with
  | zero =>
    intros
    rename_i h
    cases h
  | succ n ih =>
    intro x0 x1 x2 x3 w h
    rw [sJ7_fill_53178_5] at h
    refine gj_iload_n C (pc' := 6) (i := 2) rfl dJ7_fill_53178_5 rfl rfl ?_
    refine gj_iload_n C (pc' := 7) (i := 3) rfl dJ7_fill_53178_6 rfl rfl ?_
    refine gj_icmp_ge C (pc' := 10) (tgt := 20) rfl dJ7_fill_53178_7 rfl h (fun h => ?_) (fun h => ?_)
    · refine gj_aload_n C (pc' := 11) (i := 0) rfl dJ7_fill_53178_10 rfl rfl ?_
      refine gj_iload_n C (pc' := 12) (i := 2) rfl dJ7_fill_53178_11 rfl rfl ?_
      refine gj_iload_n C (pc' := 13) (i := 1) rfl dJ7_fill_53178_12 rfl rfl ?_
      refine gj_iast C (pc' := 14) rfl dJ7_fill_53178_13 h (fun w1 h => ?_)
      refine gj_iinc C (pc' := 17) (i := 2) (v := _ + 1) (lv' := [_, _, _, _]) rfl dJ7_fill_53178_14 rfl rfl (by decide) rfl rfl ?_
      refine gj_goto C (tgt := 5) dJ7_fill_53178_17 rfl ?_
      refine gj_drop (lv' := [some _, some _, some _, some _]) (And.intro rfl (And.intro rfl (And.intro rfl (And.intro rfl True.intro)))) ?_
      exact ih h
    · exact gj_vret C dJ7_fill_53178_20 h
set_option maxHeartbeats 4000000 in
set_option maxRecDepth 100000 in
theorem kJ7_fill_53178 : ∀ (x0 : Nat) (x1 : Int32) (w : ab_W) (w1 : ab_W), sJ7_fill_53178 x0 x1 w = some w1 → gj_Mv yJ7_fill_53178 cJ7_fill_53178 4 none 0 [.ref x0, .int x1] w w1 := by
  intro x0 x1 w w1 h
  unfold sJ7_fill_53178 at h
  refine gj_Mv_of RJ7 [some (.ref x0), some (.int x1), none, none] (by decide +kernel) rfl (Nat.le_of_ble_eq_true rfl) rfl (fun p l e s m args below meth c D ad tc A C => ?_)
  refine gj_iconst C (pc' := 1) (v := 0) rfl dJ7_fill_53178_0 (by decide) ?_
  refine gj_istore_n C (pc' := 2) (i := 2) (lv' := [_, _, _, _]) rfl dJ7_fill_53178_1 rfl (by decide) rfl rfl ?_
  refine gj_aload_n C (pc' := 3) (i := 0) rfl dJ7_fill_53178_2 rfl rfl ?_
  refine gj_alen C (pc' := 4) rfl dJ7_fill_53178_3 h (fun v1 h => ?_)
  refine gj_istore_n C (pc' := 5) (i := 3) (lv' := [_, _, _, _]) rfl dJ7_fill_53178_4 rfl (by decide) rfl rfl ?_
  refine gj_drop (lv' := [some _, some _, some _, some _]) (And.intro rfl (And.intro rfl (And.intro rfl (And.intro rfl True.intro)))) ?_
  exact kJ7_fill_53178_5 C h
set_option maxHeartbeats 4000000 in
set_option maxRecDepth 100000 in
theorem kX6_fewestFolds_140 {p : Program} {l : Launch} {e : Env} {s : State} {m : MethodId} {args : Array Value} {below : List Frame} {meth : Method} {c : Code} {D : va_G} {ad : Nat → Nat} {tc : Nat → ClassId} {A : Nat → Prop} (C : gj_C p s m args meth c D ad tc A cX6_fewestFolds 9 (some .int) RX6) {r : Int32} {w1 : ab_W} {x0 : Nat} {x2 : Int32} {w : ab_W} (h : sX6_fewestFolds_140 x0 x2 w = some (r, w1)) : gj_G p l e (gj_R 1) s m args below meth c D ad tc A 9 (gj_Qi D ad tc A below args s r w1) 140 [some (.ref x0), none, some (.int x2), none, none, none, none, none, none] [] w := by
  unfold sX6_fewestFolds_140 at h
  refine gj_aload_n C (pc' := 141) (i := 0) rfl dX6_fewestFolds_140 rfl rfl ?_
  refine gj_getR C (pc' := 144) rfl dX6_fewestFolds_141 wf_X6_21 h (fun v1 h => ?_)
  refine gj_iload_n C (pc' := 145) (i := 2) rfl dX6_fewestFolds_144 rfl rfl ?_
  refine gj_iald C (pc' := 146) rfl dX6_fewestFolds_145 h (fun v2 h => ?_)
  exact gj_iret C dX6_fewestFolds_146 h
set_option maxHeartbeats 4000000 in
set_option maxRecDepth 100000 in
theorem kX6_fewestFolds_128 {p : Program} {l : Launch} {e : Env} {s : State} {m : MethodId} {args : Array Value} {below : List Frame} {meth : Method} {c : Code} {D : va_G} {ad : Nat → Nat} {tc : Nat → ClassId} {A : Nat → Prop} (C : gj_C p s m args meth c D ad tc A cX6_fewestFolds 9 (some .int) RX6) {r : Int32} {w1 : ab_W} {k28 : Nat → Int32 → Int32 → Int32 → Int32 → ab_W → Option (Int32 × ab_W)} {k55 : Nat → Int32 → Int32 → Int32 → Int32 → Int32 → Int32 → ab_W → Option (Int32 × ab_W)} (hk28 : ∀ {x0 : Nat} {x2 : Int32} {x3 : Int32} {x4 : Int32} {x5 : Int32} {w : ab_W}, k28 x0 x2 x3 x4 x5 w = some (r, w1) → gj_G p l e (gj_R 1) s m args below meth c D ad tc A 9 (gj_Qi D ad tc A below args s r w1) 28 [some (.ref x0), none, some (.int x2), some (.int x3), some (.int x4), some (.int x5), none, none, none] [] w) (hk55 : ∀ {x0 : Nat} {x2 : Int32} {x3 : Int32} {x4 : Int32} {x5 : Int32} {x6 : Int32} {x7 : Int32} {w : ab_W}, k55 x0 x2 x3 x4 x5 x6 x7 w = some (r, w1) → gj_G p l e (gj_R 1) s m args below meth c D ad tc A 9 (gj_Qi D ad tc A below args s r w1) 55 [some (.ref x0), none, some (.int x2), some (.int x3), some (.int x4), some (.int x5), some (.int x6), some (.int x7), none] [] w) {x0 : Nat} {x2 : Int32} {x3 : Int32} {x4 : Int32} {x5 : Int32} {x6 : Int32} {x7 : Int32} {w : ab_W} (h : sX6_fewestFolds_128 k28 k55 x0 x2 x3 x4 x5 x6 x7 w = some (r, w1)) : gj_G p l e (gj_R 1) s m args below meth c D ad tc A 9 (gj_Qi D ad tc A below args s r w1) 128 [some (.ref x0), none, some (.int x2), some (.int x3), some (.int x4), some (.int x5), some (.int x6), some (.int x7), none] [] w := by
  unfold sX6_fewestFolds_128 at h
  refine gj_iinc C (pc' := 131) (i := 7) (v := _ + 1) (lv' := [_, _, _, _, _, _, _, _, _]) rfl dX6_fewestFolds_128 rfl rfl (by decide) rfl rfl ?_
  refine gj_goto C (tgt := 55) dX6_fewestFolds_131 rfl ?_
  refine gj_drop (lv' := [some _, none, some _, some _, some _, some _, some _, some _, none]) (And.intro rfl (And.intro rfl (And.intro rfl (And.intro rfl (And.intro rfl (And.intro rfl (And.intro rfl True.intro))))))) ?_
  exact hk55 h
set_option maxHeartbeats 4000000 in
set_option maxRecDepth 100000 in
theorem kX6_fewestFolds_55 {p : Program} {l : Launch} {e : Env} {s : State} {m : MethodId} {args : Array Value} {below : List Frame} {meth : Method} {c : Code} {D : va_G} {ad : Nat → Nat} {tc : Nat → ClassId} {A : Nat → Prop} (C : gj_C p s m args meth c D ad tc A cX6_fewestFolds 9 (some .int) RX6) {r : Int32} {w1 : ab_W} {k28 : Nat → Int32 → Int32 → Int32 → Int32 → ab_W → Option (Int32 × ab_W)} (hk28 : ∀ {x0 : Nat} {x2 : Int32} {x3 : Int32} {x4 : Int32} {x5 : Int32} {w : ab_W}, k28 x0 x2 x3 x4 x5 w = some (r, w1) → gj_G p l e (gj_R 1) s m args below meth c D ad tc A 9 (gj_Qi D ad tc A below args s r w1) 28 [some (.ref x0), none, some (.int x2), some (.int x3), some (.int x4), some (.int x5), none, none, none] [] w) : ∀ {n : Nat} {x0 : Nat} {x2 : Int32} {x3 : Int32} {x4 : Int32} {x5 : Int32} {x6 : Int32} {x7 : Int32} {w : ab_W}, sX6_fewestFolds_55 k28 n x0 x2 x3 x4 x5 x6 x7 w = some (r, w1) → gj_G p l e (gj_R 1) s m args below meth c D ad tc A 9 (gj_Qi D ad tc A below args s r w1) 55 [some (.ref x0), none, some (.int x2), some (.int x3), some (.int x4), some (.int x5), some (.int x6), some (.int x7), none] [] w := by
  intro n
  induction n with
  | zero =>
    intros
    rename_i h
    cases h
  | succ n ih =>
    intro x0 x2 x3 x4 x5 x6 x7 w h
    rw [sX6_fewestFolds_55] at h
    refine gj_iload C (pc' := 57) (i := 7) rfl dX6_fewestFolds_55 rfl ?_
    refine gj_bipush C (pc' := 59) (v := 7) rfl dX6_fewestFolds_57 (by decide) ?_
    refine gj_icmp_ge C (pc' := 62) (tgt := 134) rfl dX6_fewestFolds_59 rfl h (fun h => ?_) (fun h => ?_)
    · refine gj_iload C (pc' := 64) (i := 6) rfl dX6_fewestFolds_62 rfl ?_
      refine gj_iconst C (pc' := 65) (v := 1) rfl dX6_fewestFolds_64 (by decide) ?_
      refine gj_iload C (pc' := 67) (i := 7) rfl dX6_fewestFolds_65 rfl ?_
      refine gj_ishl C (pc' := 68) rfl dX6_fewestFolds_67 ?_
      refine gj_ixor C (pc' := 69) rfl dX6_fewestFolds_68 ?_
      refine gj_istore C (pc' := 71) (i := 8) (lv' := [_, _, _, _, _, _, _, _, _]) rfl dX6_fewestFolds_69 (by decide) rfl rfl ?_
      refine gj_aload_n C (pc' := 72) (i := 0) rfl dX6_fewestFolds_71 rfl rfl ?_
      refine gj_getR C (pc' := 75) rfl dX6_fewestFolds_72 wf_X6_21 h (fun v1 h => ?_)
      refine gj_iload C (pc' := 77) (i := 8) rfl dX6_fewestFolds_75 rfl ?_
      refine gj_iald C (pc' := 78) rfl dX6_fewestFolds_77 h (fun v2 h => ?_)
      refine gj_if_ge C (pc' := 81) (tgt := 128) rfl dX6_fewestFolds_78 rfl h (fun h => ?_) (fun h => ?_)
      · refine gj_aload_n C (pc' := 82) (i := 0) rfl dX6_fewestFolds_81 rfl rfl ?_
        refine gj_getR C (pc' := 85) rfl dX6_fewestFolds_82 wf_X6_15 h (fun v3 h => ?_)
        refine gj_iload C (pc' := 87) (i := 8) rfl dX6_fewestFolds_85 rfl ?_
        refine gj_iald C (pc' := 88) rfl dX6_fewestFolds_87 h (fun v4 h => ?_)
        refine gj_iload_n C (pc' := 89) (i := 3) rfl dX6_fewestFolds_88 rfl rfl ?_
        refine gj_icmp_gt C (pc' := 92) (tgt := 128) rfl dX6_fewestFolds_89 rfl h (fun h => ?_) (fun h => ?_)
        · refine gj_drop (lv' := [some _, none, some _, some _, some _, some _, some _, some _, none]) (And.intro rfl (And.intro rfl (And.intro rfl (And.intro rfl (And.intro rfl (And.intro rfl (And.intro rfl True.intro))))))) ?_
          exact kX6_fewestFolds_128 C (fun h => hk28 h) (fun h => ih h) h
        · refine gj_iload C (pc' := 94) (i := 4) rfl dX6_fewestFolds_92 rfl ?_
          refine gj_sipush C (pc' := 97) (v := 128) rfl dX6_fewestFolds_94 (by decide) ?_
          refine gj_icmp_ge C (pc' := 100) (tgt := 128) rfl dX6_fewestFolds_97 rfl h (fun h => ?_) (fun h => ?_)
          · refine gj_aload_n C (pc' := 101) (i := 0) rfl dX6_fewestFolds_100 rfl rfl ?_
            refine gj_getR C (pc' := 104) rfl dX6_fewestFolds_101 wf_X6_21 h (fun v5 h => ?_)
            refine gj_iload C (pc' := 106) (i := 8) rfl dX6_fewestFolds_104 rfl ?_
            refine gj_aload_n C (pc' := 107) (i := 0) rfl dX6_fewestFolds_106 rfl rfl ?_
            refine gj_getR C (pc' := 110) rfl dX6_fewestFolds_107 wf_X6_21 h (fun v6 h => ?_)
            refine gj_iload C (pc' := 112) (i := 6) rfl dX6_fewestFolds_110 rfl ?_
            refine gj_iald C (pc' := 113) rfl dX6_fewestFolds_112 h (fun v7 h => ?_)
            refine gj_iconst C (pc' := 114) (v := 1) rfl dX6_fewestFolds_113 (by decide) ?_
            refine gj_iadd C (pc' := 115) rfl dX6_fewestFolds_114 ?_
            refine gj_iast C (pc' := 116) rfl dX6_fewestFolds_115 h (fun w8 h => ?_)
            refine gj_aload_n C (pc' := 117) (i := 0) rfl dX6_fewestFolds_116 rfl rfl ?_
            refine gj_getR C (pc' := 120) rfl dX6_fewestFolds_117 wf_X6_24 h (fun v9 h => ?_)
            refine gj_iload C (pc' := 122) (i := 4) rfl dX6_fewestFolds_120 rfl ?_
            refine gj_iload C (pc' := 124) (i := 8) rfl dX6_fewestFolds_122 rfl ?_
            refine gj_iast C (pc' := 125) rfl dX6_fewestFolds_124 h (fun w10 h => ?_)
            refine gj_iinc C (pc' := 128) (i := 4) (v := _ + 1) (lv' := [_, _, _, _, _, _, _, _, _]) rfl dX6_fewestFolds_125 rfl rfl (by decide) rfl rfl ?_
            refine gj_drop (lv' := [some _, none, some _, some _, some _, some _, some _, some _, none]) (And.intro rfl (And.intro rfl (And.intro rfl (And.intro rfl (And.intro rfl (And.intro rfl (And.intro rfl True.intro))))))) ?_
            exact kX6_fewestFolds_128 C (fun h => hk28 h) (fun h => ih h) h
          · refine gj_drop (lv' := [some _, none, some _, some _, some _, some _, some _, some _, none]) (And.intro rfl (And.intro rfl (And.intro rfl (And.intro rfl (And.intro rfl (And.intro rfl (And.intro rfl True.intro))))))) ?_
            exact kX6_fewestFolds_128 C (fun h => hk28 h) (fun h => ih h) h
      · refine gj_drop (lv' := [some _, none, some _, some _, some _, some _, some _, some _, none]) (And.intro rfl (And.intro rfl (And.intro rfl (And.intro rfl (And.intro rfl (And.intro rfl (And.intro rfl True.intro))))))) ?_
        exact kX6_fewestFolds_128 C (fun h => hk28 h) (fun h => ih h) h
    · refine gj_iinc C (pc' := 137) (i := 5) (v := _ + 1) (lv' := [_, _, _, _, _, _, _, _, _]) rfl dX6_fewestFolds_134 rfl rfl (by decide) rfl rfl ?_
      refine gj_goto C (tgt := 28) dX6_fewestFolds_137 rfl ?_
      refine gj_drop (lv' := [some _, none, some _, some _, some _, some _, none, none, none]) (And.intro rfl (And.intro rfl (And.intro rfl (And.intro rfl (And.intro rfl True.intro))))) ?_
      exact hk28 h
set_option maxHeartbeats 4000000 in
set_option maxRecDepth 100000 in
theorem kX6_fewestFolds_28 {p : Program} {l : Launch} {e : Env} {s : State} {m : MethodId} {args : Array Value} {below : List Frame} {meth : Method} {c : Code} {D : va_G} {ad : Nat → Nat} {tc : Nat → ClassId} {A : Nat → Prop} (C : gj_C p s m args meth c D ad tc A cX6_fewestFolds 9 (some .int) RX6) {r : Int32} {w1 : ab_W} : ∀ {n : Nat} {x0 : Nat} {x2 : Int32} {x3 : Int32} {x4 : Int32} {x5 : Int32} {w : ab_W}, sX6_fewestFolds_28 n x0 x2 x3 x4 x5 w = some (r, w1) → gj_G p l e (gj_R 1) s m args below meth c D ad tc A 9 (gj_Qi D ad tc A below args s r w1) 28 [some (.ref x0), none, some (.int x2), some (.int x3), some (.int x4), some (.int x5), none, none, none] [] w := by
  intro n
  induction n with
  | zero =>
    intros
    rename_i h
    cases h
  | succ n ih =>
    intro x0 x2 x3 x4 x5 w h
    rw [sX6_fewestFolds_28] at h
    refine gj_iload C (pc' := 30) (i := 5) rfl dX6_fewestFolds_28 rfl ?_
    refine gj_iload C (pc' := 32) (i := 4) rfl dX6_fewestFolds_30 rfl ?_
    refine gj_icmp_ge C (pc' := 35) (tgt := 140) rfl dX6_fewestFolds_32 rfl h (fun h => ?_) (fun h => ?_)
    · refine gj_iload C (pc' := 37) (i := 5) rfl dX6_fewestFolds_35 rfl ?_
      refine gj_sipush C (pc' := 40) (v := 128) rfl dX6_fewestFolds_37 (by decide) ?_
      refine gj_icmp_ge C (pc' := 43) (tgt := 140) rfl dX6_fewestFolds_40 rfl h (fun h => ?_) (fun h => ?_)
      · refine gj_aload_n C (pc' := 44) (i := 0) rfl dX6_fewestFolds_43 rfl rfl ?_
        refine gj_getR C (pc' := 47) rfl dX6_fewestFolds_44 wf_X6_24 h (fun v1 h => ?_)
        refine gj_iload C (pc' := 49) (i := 5) rfl dX6_fewestFolds_47 rfl ?_
        refine gj_iald C (pc' := 50) rfl dX6_fewestFolds_49 h (fun v2 h => ?_)
        refine gj_istore C (pc' := 52) (i := 6) (lv' := [_, _, _, _, _, _, _, _, _]) rfl dX6_fewestFolds_50 (by decide) rfl rfl ?_
        refine gj_iconst C (pc' := 53) (v := 0) rfl dX6_fewestFolds_52 (by decide) ?_
        refine gj_istore C (pc' := 55) (i := 7) (lv' := [_, _, _, _, _, _, _, _, _]) rfl dX6_fewestFolds_53 (by decide) rfl rfl ?_
        refine gj_drop (lv' := [some _, none, some _, some _, some _, some _, some _, some _, none]) (And.intro rfl (And.intro rfl (And.intro rfl (And.intro rfl (And.intro rfl (And.intro rfl (And.intro rfl True.intro))))))) ?_
        exact kX6_fewestFolds_55 C (fun h => ih h) h
      · refine gj_drop (lv' := [some _, none, some _, none, none, none, none, none, none]) (And.intro rfl (And.intro rfl True.intro)) ?_
        exact kX6_fewestFolds_140 C h
    · refine gj_drop (lv' := [some _, none, some _, none, none, none, none, none, none]) (And.intro rfl (And.intro rfl True.intro)) ?_
      exact kX6_fewestFolds_140 C h
set_option maxHeartbeats 4000000 in
set_option maxRecDepth 100000 in
theorem kX6_fewestFolds : ∀ (x0 : Nat) (x1 : Int32) (x2 : Int32) (x3 : Int32) (w : ab_W) (r : Int32) (w1 : ab_W), sX6_fewestFolds x0 x1 x2 x3 w = some (r, w1) → gj_Mi yX6_fewestFolds cX6_fewestFolds 9 (some .int) 1 [.ref x0, .int x1, .int x2, .int x3] w r w1 ∧ ab_is w 6 x0 = true := by
  intro x0 x1 x2 x3 w r w1 h
  unfold sX6_fewestFolds at h
  obtain ⟨hi, h⟩ := ab_ite h
  refine ⟨?_, hi⟩
  refine gj_Mi_of RX6 [some (.ref x0), some (.int x1), some (.int x2), some (.int x3), none, none, none, none, none] (by decide +kernel) rfl (Nat.le_of_ble_eq_true rfl) rfl (fun p l e s m args below meth c D ad tc A C => ?_)
  refine gj_aload_n C (pc' := 1) (i := 0) rfl dX6_fewestFolds_0 rfl rfl ?_
  refine gj_getR C (pc' := 4) rfl dX6_fewestFolds_1 wf_X6_21 h (fun v1 h => ?_)
  refine gj_iconst C (pc' := 5) (v := (-1)) rfl dX6_fewestFolds_4 (by decide) ?_
  refine gj_callSv C (pc' := 8) rfl dX6_fewestFolds_5 wm_X6_31 uJ7_fill_53178 h (kJ7_fill_53178 _ _ _) (by omega) rfl rfl (Nat.le_of_ble_eq_true rfl) (fun w2 h => ?_)
  refine gj_aload_n C (pc' := 9) (i := 0) rfl dX6_fewestFolds_8 rfl rfl ?_
  refine gj_getR C (pc' := 12) rfl dX6_fewestFolds_9 wf_X6_21 h (fun v3 h => ?_)
  refine gj_iload_n C (pc' := 13) (i := 1) rfl dX6_fewestFolds_12 rfl rfl ?_
  refine gj_iconst C (pc' := 14) (v := 0) rfl dX6_fewestFolds_13 (by decide) ?_
  refine gj_iast C (pc' := 15) rfl dX6_fewestFolds_14 h (fun w4 h => ?_)
  refine gj_aload_n C (pc' := 16) (i := 0) rfl dX6_fewestFolds_15 rfl rfl ?_
  refine gj_getR C (pc' := 19) rfl dX6_fewestFolds_16 wf_X6_24 h (fun v5 h => ?_)
  refine gj_iconst C (pc' := 20) (v := 0) rfl dX6_fewestFolds_19 (by decide) ?_
  refine gj_iload_n C (pc' := 21) (i := 1) rfl dX6_fewestFolds_20 rfl rfl ?_
  refine gj_iast C (pc' := 22) rfl dX6_fewestFolds_21 h (fun w6 h => ?_)
  refine gj_iconst C (pc' := 23) (v := 1) rfl dX6_fewestFolds_22 (by decide) ?_
  refine gj_istore C (pc' := 25) (i := 4) (lv' := [_, _, _, _, _, _, _, _, _]) rfl dX6_fewestFolds_23 (by decide) rfl rfl ?_
  refine gj_iconst C (pc' := 26) (v := 0) rfl dX6_fewestFolds_25 (by decide) ?_
  refine gj_istore C (pc' := 28) (i := 5) (lv' := [_, _, _, _, _, _, _, _, _]) rfl dX6_fewestFolds_26 (by decide) rfl rfl ?_
  refine gj_drop (lv' := [some _, none, some _, some _, some _, some _, none, none, none]) (And.intro rfl (And.intro rfl (And.intro rfl (And.intro rfl (And.intro rfl True.intro))))) ?_
  exact kX6_fewestFolds_28 C h
set_option maxHeartbeats 4000000 in
set_option maxRecDepth 100000 in
theorem kX9_way_21 {p : Program} {l : Launch} {e : Env} {s : State} {m : MethodId} {args : Array Value} {below : List Frame} {meth : Method} {c : Code} {D : va_G} {ad : Nat → Nat} {tc : Nat → ClassId} {A : Nat → Prop} (C : gj_C p s m args meth c D ad tc A cX9_way 4 (some .int) RX9) {r : Int32} {w1 : ab_W} {x0 : Nat} {w : ab_W} (h : sX9_way_21 x0 w = some (r, w1)) : gj_G p l e (gj_R 3) s m args below meth c D ad tc A 4 (gj_Qi D ad tc A below args s r w1) 21 [some (.ref x0), none, none, none] [] w := by
  unfold sX9_way_21 at h
  refine gj_aload_n C (pc' := 22) (i := 0) rfl dX9_way_21 rfl rfl ?_
  refine gj_iconst C (pc' := 23) (v := 1) rfl dX9_way_22 (by decide) ?_
  refine gj_callVi C (pc' := 26) rfl dX9_way_23 wm_X9_66 uX9_fail h (kX9_fail _ _ _) (by omega) rfl rfl (Nat.le_of_ble_eq_true rfl) (fun v1 w2 h => ?_)
  exact gj_iret C dX9_way_26 h
set_option maxHeartbeats 4000000 in
set_option maxRecDepth 100000 in
theorem kX9_way : ∀ (x0 : Nat) (x1 : Int32) (x2 : Int32) (w : ab_W) (r : Int32) (w1 : ab_W), sX9_way x0 x1 x2 w = some (r, w1) → gj_Mi yX9_way cX9_way 4 (some .int) 3 [.ref x0, .int x1, .int x2] w r w1 ∧ ab_is w 9 x0 = true := by
  intro x0 x1 x2 w r w1 h
  unfold sX9_way at h
  obtain ⟨hi, h⟩ := ab_ite h
  refine ⟨?_, hi⟩
  refine gj_Mi_of RX9 [some (.ref x0), some (.int x1), some (.int x2), none] (by decide +kernel) rfl (Nat.le_of_ble_eq_true rfl) rfl (fun p l e s m args below meth c D ad tc A C => ?_)
  refine gj_aload_n C (pc' := 1) (i := 0) rfl dX9_way_0 rfl rfl ?_
  refine gj_getR C (pc' := 4) rfl dX9_way_1 wf_X9_30 h (fun v1 h => ?_)
  refine gj_iload_n C (pc' := 5) (i := 1) rfl dX9_way_4 rfl rfl ?_
  refine gj_callVi C (pc' := 8) rfl dX9_way_5 wm_X9_77 uX0_has h (kX0_has _ _ _) (by omega) rfl rfl (Nat.le_of_ble_eq_true rfl) (fun v2 w3 h => ?_)
  refine gj_if_eq C (pc' := 11) (tgt := 21) rfl dX9_way_8 rfl h (fun h => ?_) (fun h => ?_)
  · refine gj_drop (lv' := [some _, none, none, none]) (And.intro rfl True.intro) ?_
    exact kX9_way_21 C h
  · refine gj_iload_n C (pc' := 12) (i := 2) rfl dX9_way_11 rfl rfl ?_
    refine gj_iconst C (pc' := 13) (v := 0) rfl dX9_way_12 (by decide) ?_
    refine gj_bipush C (pc' := 15) (v := 127) rfl dX9_way_13 (by decide) ?_
    refine gj_callSi C (pc' := 18) rfl dX9_way_15 wm_X9_62 uX9_within h (kX9_within _ _ _ _) (by omega) rfl rfl (Nat.le_of_ble_eq_true rfl) (fun v4 w5 h => ?_)
    refine gj_if_ne C (pc' := 21) (tgt := 27) rfl dX9_way_18 rfl h (fun h => ?_) (fun h => ?_)
    · refine gj_drop (lv' := [some _, none, none, none]) (And.intro rfl True.intro) ?_
      exact kX9_way_21 C h
    · refine gj_aload_n C (pc' := 28) (i := 0) rfl dX9_way_27 rfl rfl ?_
      refine gj_getR C (pc' := 31) rfl dX9_way_28 wf_X9_30 h (fun v6 h => ?_)
      refine gj_getR C (pc' := 34) rfl dX9_way_31 wf_X9_81 h (fun v7 h => ?_)
      refine gj_iload_n C (pc' := 35) (i := 1) rfl dX9_way_34 rfl rfl ?_
      refine gj_rald C (pc' := 36) (t := 1) rfl dX9_way_35 rfl h (fun v8 h => ?_)
      refine gj_astore_n C (pc' := 37) (i := 3) (lv' := [_, _, _, _]) rfl dX9_way_36 rfl (by decide) rfl rfl ?_
      refine gj_aload_n C (pc' := 38) (i := 0) rfl dX9_way_37 rfl rfl ?_
      refine gj_aload_n C (pc' := 39) (i := 0) rfl dX9_way_38 rfl rfl ?_
      refine gj_getR C (pc' := 42) rfl dX9_way_39 wf_X9_23 h (fun v9 h => ?_)
      refine gj_aload_n C (pc' := 43) (i := 3) rfl dX9_way_42 rfl rfl ?_
      refine gj_getI C (pc' := 46) rfl dX9_way_43 wf_X9_96 h (fun v10 h => ?_)
      refine gj_iload_n C (pc' := 47) (i := 2) rfl dX9_way_46 rfl rfl ?_
      refine gj_aload_n C (pc' := 48) (i := 3) rfl dX9_way_47 rfl rfl ?_
      refine gj_callVi C (pc' := 51) rfl dX9_way_48 wm_X9_112 uX3_stiff h (kX3_stiff _ _) (by omega) rfl rfl (Nat.le_of_ble_eq_true rfl) (fun v11 w12 h => ?_)
      refine gj_callVi C (pc' := 54) rfl dX9_way_51 wm_X9_188 uX6_fewestFolds h (kX6_fewestFolds _ _ _ _ _) (by omega) rfl rfl (Nat.le_of_ble_eq_true rfl) (fun v13 w14 h => ?_)
      refine gj_callVi C (pc' := 57) rfl dX9_way_54 wm_X9_179 uX9_orNone h (kX9_orNone _ _ _) (by omega) rfl rfl (Nat.le_of_ble_eq_true rfl) (fun v15 w16 h => ?_)
      exact gj_iret C dX9_way_57 h
set_option maxHeartbeats 4000000 in
set_option maxRecDepth 100000 in
theorem kX6_fewestUnfolded_46 {p : Program} {l : Launch} {e : Env} {s : State} {m : MethodId} {args : Array Value} {below : List Frame} {meth : Method} {c : Code} {D : va_G} {ad : Nat → Nat} {tc : Nat → ClassId} {A : Nat → Prop} (C : gj_C p s m args meth c D ad tc A cX6_fewestUnfolded 5 (some .int) RX6) {r : Int32} {w1 : ab_W} {k5 : Nat → Int32 → Int32 → Int32 → Int32 → ab_W → Option (Int32 × ab_W)} (hk5 : ∀ {x0 : Nat} {x1 : Int32} {x2 : Int32} {x3 : Int32} {x4 : Int32} {w : ab_W}, k5 x0 x1 x2 x3 x4 w = some (r, w1) → gj_G p l e (gj_R 2) s m args below meth c D ad tc A 5 (gj_Qi D ad tc A below args s r w1) 5 [some (.ref x0), some (.int x1), some (.int x2), some (.int x3), some (.int x4)] [] w) {x0 : Nat} {x1 : Int32} {x2 : Int32} {x3 : Int32} {x4 : Int32} {w : ab_W} (h : sX6_fewestUnfolded_46 k5 x0 x1 x2 x3 x4 w = some (r, w1)) : gj_G p l e (gj_R 2) s m args below meth c D ad tc A 5 (gj_Qi D ad tc A below args s r w1) 46 [some (.ref x0), some (.int x1), some (.int x2), some (.int x3), some (.int x4)] [] w := by
  unfold sX6_fewestUnfolded_46 at h
  refine gj_iinc C (pc' := 49) (i := 4) (v := _ + 1) (lv' := [_, _, _, _, _]) rfl dX6_fewestUnfolded_46 rfl rfl (by decide) rfl rfl ?_
  refine gj_goto C (tgt := 5) dX6_fewestUnfolded_49 rfl ?_
  refine gj_drop (lv' := [some _, some _, some _, some _, some _]) (And.intro rfl (And.intro rfl (And.intro rfl (And.intro rfl (And.intro rfl True.intro))))) ?_
  exact hk5 h
set_option maxHeartbeats 4000000 in
set_option maxRecDepth 100000 in
theorem kX6_fewestUnfolded_5 {p : Program} {l : Launch} {e : Env} {s : State} {m : MethodId} {args : Array Value} {below : List Frame} {meth : Method} {c : Code} {D : va_G} {ad : Nat → Nat} {tc : Nat → ClassId} {A : Nat → Prop} (C : gj_C p s m args meth c D ad tc A cX6_fewestUnfolded 5 (some .int) RX6) {r : Int32} {w1 : ab_W} : ∀ {n : Nat} {x0 : Nat} {x1 : Int32} {x2 : Int32} {x3 : Int32} {x4 : Int32} {w : ab_W}, sX6_fewestUnfolded_5 n x0 x1 x2 x3 x4 w = some (r, w1) → gj_G p l e (gj_R 2) s m args below meth c D ad tc A 5 (gj_Qi D ad tc A below args s r w1) 5 [some (.ref x0), some (.int x1), some (.int x2), some (.int x3), some (.int x4)] [] w := by
  intro n
  induction n with
  | zero =>
    intros
    rename_i h
    cases h
  | succ n ih =>
    intro x0 x1 x2 x3 x4 w h
    rw [sX6_fewestUnfolded_5] at h
    refine gj_iload C (pc' := 7) (i := 4) rfl dX6_fewestUnfolded_5 rfl ?_
    refine gj_iload_n C (pc' := 8) (i := 1) rfl dX6_fewestUnfolded_7 rfl rfl ?_
    refine gj_icmp_gt C (pc' := 11) (tgt := 52) rfl dX6_fewestUnfolded_8 rfl h (fun h => ?_) (fun h => ?_)
    · refine gj_iload_n C (pc' := 53) (i := 3) rfl dX6_fewestUnfolded_52 rfl rfl ?_
      exact gj_iret C dX6_fewestUnfolded_53 h
    · refine gj_iload C (pc' := 13) (i := 4) rfl dX6_fewestUnfolded_11 rfl ?_
      refine gj_iload_n C (pc' := 14) (i := 1) rfl dX6_fewestUnfolded_13 rfl rfl ?_
      refine gj_iconst C (pc' := 15) (v := (-1)) rfl dX6_fewestUnfolded_14 (by decide) ?_
      refine gj_ixor C (pc' := 16) rfl dX6_fewestUnfolded_15 ?_
      refine gj_iand C (pc' := 17) rfl dX6_fewestUnfolded_16 ?_
      refine gj_if_ne C (pc' := 20) (tgt := 46) rfl dX6_fewestUnfolded_17 rfl h (fun h => ?_) (fun h => ?_)
      · refine gj_aload_n C (pc' := 21) (i := 0) rfl dX6_fewestUnfolded_20 rfl rfl ?_
        refine gj_getR C (pc' := 24) rfl dX6_fewestUnfolded_21 wf_X6_9 h (fun v1 h => ?_)
        refine gj_iload_n C (pc' := 25) (i := 1) rfl dX6_fewestUnfolded_24 rfl rfl ?_
        refine gj_iload C (pc' := 27) (i := 4) rfl dX6_fewestUnfolded_25 rfl ?_
        refine gj_ixor C (pc' := 28) rfl dX6_fewestUnfolded_27 ?_
        refine gj_iald C (pc' := 29) rfl dX6_fewestUnfolded_28 h (fun v2 h => ?_)
        refine gj_iload_n C (pc' := 30) (i := 2) rfl dX6_fewestUnfolded_29 rfl rfl ?_
        refine gj_icmp_lt C (pc' := 33) (tgt := 46) rfl dX6_fewestUnfolded_30 rfl h (fun h => ?_) (fun h => ?_)
        · refine gj_drop (lv' := [some _, some _, some _, some _, some _]) (And.intro rfl (And.intro rfl (And.intro rfl (And.intro rfl (And.intro rfl True.intro))))) ?_
          exact kX6_fewestUnfolded_46 C (fun h => ih h) h
        · refine gj_aload_n C (pc' := 34) (i := 0) rfl dX6_fewestUnfolded_33 rfl rfl ?_
          refine gj_iload C (pc' := 36) (i := 4) rfl dX6_fewestUnfolded_34 rfl ?_
          refine gj_iload_n C (pc' := 37) (i := 3) rfl dX6_fewestUnfolded_36 rfl rfl ?_
          refine gj_callVi C (pc' := 40) rfl dX6_fewestUnfolded_37 wm_X6_52 uX6_isFewer h (kX6_isFewer _ _ _ _) (by omega) rfl rfl (Nat.le_of_ble_eq_true rfl) (fun v3 w4 h => ?_)
          refine gj_if_eq C (pc' := 43) (tgt := 46) rfl dX6_fewestUnfolded_40 rfl h (fun h => ?_) (fun h => ?_)
          · refine gj_drop (lv' := [some _, some _, some _, some _, some _]) (And.intro rfl (And.intro rfl (And.intro rfl (And.intro rfl (And.intro rfl True.intro))))) ?_
            exact kX6_fewestUnfolded_46 C (fun h => ih h) h
          · refine gj_iload C (pc' := 45) (i := 4) rfl dX6_fewestUnfolded_43 rfl ?_
            refine gj_istore_n C (pc' := 46) (i := 3) (lv' := [_, _, _, _, _]) rfl dX6_fewestUnfolded_45 rfl (by decide) rfl rfl ?_
            refine gj_drop (lv' := [some _, some _, some _, some _, some _]) (And.intro rfl (And.intro rfl (And.intro rfl (And.intro rfl (And.intro rfl True.intro))))) ?_
            exact kX6_fewestUnfolded_46 C (fun h => ih h) h
      · refine gj_drop (lv' := [some _, some _, some _, some _, some _]) (And.intro rfl (And.intro rfl (And.intro rfl (And.intro rfl (And.intro rfl True.intro))))) ?_
        exact kX6_fewestUnfolded_46 C (fun h => ih h) h
set_option maxHeartbeats 4000000 in
set_option maxRecDepth 100000 in
theorem kX6_fewestUnfolded : ∀ (x0 : Nat) (x1 : Int32) (x2 : Int32) (w : ab_W) (r : Int32) (w1 : ab_W), sX6_fewestUnfolded x0 x1 x2 w = some (r, w1) → gj_Mi yX6_fewestUnfolded cX6_fewestUnfolded 5 (some .int) 2 [.ref x0, .int x1, .int x2] w r w1 ∧ ab_is w 6 x0 = true := by
  intro x0 x1 x2 w r w1 h
  unfold sX6_fewestUnfolded at h
  obtain ⟨hi, h⟩ := ab_ite h
  refine ⟨?_, hi⟩
  refine gj_Mi_of RX6 [some (.ref x0), some (.int x1), some (.int x2), none, none] (by decide +kernel) rfl (Nat.le_of_ble_eq_true rfl) rfl (fun p l e s m args below meth c D ad tc A C => ?_)
  refine gj_iconst C (pc' := 1) (v := (-1)) rfl dX6_fewestUnfolded_0 (by decide) ?_
  refine gj_istore_n C (pc' := 2) (i := 3) (lv' := [_, _, _, _, _]) rfl dX6_fewestUnfolded_1 rfl (by decide) rfl rfl ?_
  refine gj_iconst C (pc' := 3) (v := 0) rfl dX6_fewestUnfolded_2 (by decide) ?_
  refine gj_istore C (pc' := 5) (i := 4) (lv' := [_, _, _, _, _]) rfl dX6_fewestUnfolded_3 (by decide) rfl rfl ?_
  refine gj_drop (lv' := [some _, some _, some _, some _, some _]) (And.intro rfl (And.intro rfl (And.intro rfl (And.intro rfl (And.intro rfl True.intro))))) ?_
  exact kX6_fewestUnfolded_5 C h
set_option maxHeartbeats 4000000 in
set_option maxRecDepth 100000 in
theorem kX9_open_21 {p : Program} {l : Launch} {e : Env} {s : State} {m : MethodId} {args : Array Value} {below : List Frame} {meth : Method} {c : Code} {D : va_G} {ad : Nat → Nat} {tc : Nat → ClassId} {A : Nat → Prop} (C : gj_C p s m args meth c D ad tc A cX9_open 3 (some .int) RX9) {r : Int32} {w1 : ab_W} {x0 : Nat} {w : ab_W} (h : sX9_open_21 x0 w = some (r, w1)) : gj_G p l e (gj_R 3) s m args below meth c D ad tc A 3 (gj_Qi D ad tc A below args s r w1) 21 [some (.ref x0), none, none] [] w := by
  unfold sX9_open_21 at h
  refine gj_aload_n C (pc' := 22) (i := 0) rfl dX9_open_21 rfl rfl ?_
  refine gj_iconst C (pc' := 23) (v := 1) rfl dX9_open_22 (by decide) ?_
  refine gj_callVi C (pc' := 26) rfl dX9_open_23 wm_X9_66 uX9_fail h (kX9_fail _ _ _) (by omega) rfl rfl (Nat.le_of_ble_eq_true rfl) (fun v1 w2 h => ?_)
  exact gj_iret C dX9_open_26 h
set_option maxHeartbeats 4000000 in
set_option maxRecDepth 100000 in
theorem kX9_open : ∀ (x0 : Nat) (x1 : Int32) (x2 : Int32) (w : ab_W) (r : Int32) (w1 : ab_W), sX9_open x0 x1 x2 w = some (r, w1) → gj_Mi yX9_open cX9_open 3 (some .int) 3 [.ref x0, .int x1, .int x2] w r w1 ∧ ab_is w 9 x0 = true := by
  intro x0 x1 x2 w r w1 h
  unfold sX9_open at h
  obtain ⟨hi, h⟩ := ab_ite h
  refine ⟨?_, hi⟩
  refine gj_Mi_of RX9 [some (.ref x0), some (.int x1), some (.int x2)] (by decide +kernel) rfl (Nat.le_of_ble_eq_true rfl) rfl (fun p l e s m args below meth c D ad tc A C => ?_)
  refine gj_aload_n C (pc' := 1) (i := 0) rfl dX9_open_0 rfl rfl ?_
  refine gj_getR C (pc' := 4) rfl dX9_open_1 wf_X9_30 h (fun v1 h => ?_)
  refine gj_iload_n C (pc' := 5) (i := 1) rfl dX9_open_4 rfl rfl ?_
  refine gj_callVi C (pc' := 8) rfl dX9_open_5 wm_X9_77 uX0_has h (kX0_has _ _ _) (by omega) rfl rfl (Nat.le_of_ble_eq_true rfl) (fun v2 w3 h => ?_)
  refine gj_if_eq C (pc' := 11) (tgt := 21) rfl dX9_open_8 rfl h (fun h => ?_) (fun h => ?_)
  · refine gj_drop (lv' := [some _, none, none]) (And.intro rfl True.intro) ?_
    exact kX9_open_21 C h
  · refine gj_iload_n C (pc' := 12) (i := 2) rfl dX9_open_11 rfl rfl ?_
    refine gj_iconst C (pc' := 13) (v := 1) rfl dX9_open_12 (by decide) ?_
    refine gj_bipush C (pc' := 15) (v := 8) rfl dX9_open_13 (by decide) ?_
    refine gj_callSi C (pc' := 18) rfl dX9_open_15 wm_X9_62 uX9_within h (kX9_within _ _ _ _) (by omega) rfl rfl (Nat.le_of_ble_eq_true rfl) (fun v4 w5 h => ?_)
    refine gj_if_ne C (pc' := 21) (tgt := 27) rfl dX9_open_18 rfl h (fun h => ?_) (fun h => ?_)
    · refine gj_drop (lv' := [some _, none, none]) (And.intro rfl True.intro) ?_
      exact kX9_open_21 C h
    · refine gj_aload_n C (pc' := 28) (i := 0) rfl dX9_open_27 rfl rfl ?_
      refine gj_getR C (pc' := 31) rfl dX9_open_28 wf_X9_23 h (fun v6 h => ?_)
      refine gj_aload_n C (pc' := 32) (i := 0) rfl dX9_open_31 rfl rfl ?_
      refine gj_getR C (pc' := 35) rfl dX9_open_32 wf_X9_30 h (fun v7 h => ?_)
      refine gj_getR C (pc' := 38) rfl dX9_open_35 wf_X9_81 h (fun v8 h => ?_)
      refine gj_iload_n C (pc' := 39) (i := 1) rfl dX9_open_38 rfl rfl ?_
      refine gj_rald C (pc' := 40) (t := 1) rfl dX9_open_39 rfl h (fun v9 h => ?_)
      refine gj_getI C (pc' := 43) rfl dX9_open_40 wf_X9_96 h (fun v10 h => ?_)
      refine gj_iload_n C (pc' := 44) (i := 2) rfl dX9_open_43 rfl rfl ?_
      refine gj_callVi C (pc' := 47) rfl dX9_open_44 wm_X9_192 uX6_fewestUnfolded h (kX6_fewestUnfolded _ _ _ _) (by omega) rfl rfl (Nat.le_of_ble_eq_true rfl) (fun v11 w12 h => ?_)
      exact gj_iret C dX9_open_47 h
set_option maxHeartbeats 4000000 in
set_option maxRecDepth 100000 in
theorem kX6_lookAlike : ∀ (x0 : Nat) (x1 : Int32) (x2 : Int32) (w : ab_W) (r : Int32) (w1 : ab_W), sX6_lookAlike x0 x1 x2 w = some (r, w1) → gj_Mi yX6_lookAlike cX6_lookAlike 3 (some .boolean) 0 [.ref x0, .int x1, .int x2] w r w1 ∧ ab_is w 6 x0 = true := by
  intro x0 x1 x2 w r w1 h
  unfold sX6_lookAlike at h
  obtain ⟨hi, h⟩ := ab_ite h
  refine ⟨?_, hi⟩
  refine gj_Mi_of RX6 [some (.ref x0), some (.int x1), some (.int x2)] (by decide +kernel) rfl (Nat.le_of_ble_eq_true rfl) rfl (fun p l e s m args below meth c D ad tc A C => ?_)
  refine gj_iload_n C (pc' := 1) (i := 1) rfl dX6_lookAlike_0 rfl rfl ?_
  refine gj_iload_n C (pc' := 2) (i := 2) rfl dX6_lookAlike_1 rfl rfl ?_
  refine gj_icmp_eq C (pc' := 5) (tgt := 39) rfl dX6_lookAlike_2 rfl h (fun h => ?_) (fun h => ?_)
  · refine gj_iconst C (pc' := 40) (v := 0) rfl dX6_lookAlike_39 (by decide) ?_
    exact gj_zret C dX6_lookAlike_40 h
  · refine gj_aload_n C (pc' := 6) (i := 0) rfl dX6_lookAlike_5 rfl rfl ?_
    refine gj_getR C (pc' := 9) rfl dX6_lookAlike_6 wf_X6_9 h (fun v1 h => ?_)
    refine gj_iload_n C (pc' := 10) (i := 1) rfl dX6_lookAlike_9 rfl rfl ?_
    refine gj_iald C (pc' := 11) rfl dX6_lookAlike_10 h (fun v2 h => ?_)
    refine gj_aload_n C (pc' := 12) (i := 0) rfl dX6_lookAlike_11 rfl rfl ?_
    refine gj_getR C (pc' := 15) rfl dX6_lookAlike_12 wf_X6_9 h (fun v3 h => ?_)
    refine gj_iload_n C (pc' := 16) (i := 2) rfl dX6_lookAlike_15 rfl rfl ?_
    refine gj_iald C (pc' := 17) rfl dX6_lookAlike_16 h (fun v4 h => ?_)
    refine gj_icmp_ne C (pc' := 20) (tgt := 39) rfl dX6_lookAlike_17 rfl h (fun h => ?_) (fun h => ?_)
    · refine gj_aload_n C (pc' := 21) (i := 0) rfl dX6_lookAlike_20 rfl rfl ?_
      refine gj_getR C (pc' := 24) rfl dX6_lookAlike_21 wf_X6_15 h (fun v5 h => ?_)
      refine gj_iload_n C (pc' := 25) (i := 1) rfl dX6_lookAlike_24 rfl rfl ?_
      refine gj_iald C (pc' := 26) rfl dX6_lookAlike_25 h (fun v6 h => ?_)
      refine gj_aload_n C (pc' := 27) (i := 0) rfl dX6_lookAlike_26 rfl rfl ?_
      refine gj_getR C (pc' := 30) rfl dX6_lookAlike_27 wf_X6_15 h (fun v7 h => ?_)
      refine gj_iload_n C (pc' := 31) (i := 2) rfl dX6_lookAlike_30 rfl rfl ?_
      refine gj_iald C (pc' := 32) rfl dX6_lookAlike_31 h (fun v8 h => ?_)
      refine gj_icmp_ne C (pc' := 35) (tgt := 39) rfl dX6_lookAlike_32 rfl h (fun h => ?_) (fun h => ?_)
      · refine gj_iconst C (pc' := 36) (v := 1) rfl dX6_lookAlike_35 (by decide) ?_
        refine gj_goto C (tgt := 40) dX6_lookAlike_36 rfl ?_
        exact gj_zret C dX6_lookAlike_40 h
      · refine gj_iconst C (pc' := 40) (v := 0) rfl dX6_lookAlike_39 (by decide) ?_
        exact gj_zret C dX6_lookAlike_40 h
    · refine gj_iconst C (pc' := 40) (v := 0) rfl dX6_lookAlike_39 (by decide) ?_
      exact gj_zret C dX6_lookAlike_40 h
set_option maxHeartbeats 4000000 in
set_option maxRecDepth 100000 in
theorem kX9_alike_108 {p : Program} {l : Launch} {e : Env} {s : State} {m : MethodId} {args : Array Value} {below : List Frame} {meth : Method} {c : Code} {D : va_G} {ad : Nat → Nat} {tc : Nat → ClassId} {A : Nat → Prop} (C : gj_C p s m args meth c D ad tc A cX9_alike 6 (some .int) RX9) {r : Int32} {w1 : ab_W} {k22 : Nat → Int32 → Int32 → Int32 → Int32 → ab_W → Option (Int32 × ab_W)} {k40 : Nat → Int32 → Int32 → Int32 → Int32 → Int32 → ab_W → Option (Int32 × ab_W)} (hk22 : ∀ {x0 : Nat} {x1 : Int32} {x2 : Int32} {x3 : Int32} {x4 : Int32} {w : ab_W}, k22 x0 x1 x2 x3 x4 w = some (r, w1) → gj_G p l e (gj_R 3) s m args below meth c D ad tc A 6 (gj_Qi D ad tc A below args s r w1) 22 [some (.ref x0), some (.int x1), some (.int x2), some (.int x3), some (.int x4), none] [] w) (hk40 : ∀ {x0 : Nat} {x1 : Int32} {x2 : Int32} {x3 : Int32} {x4 : Int32} {x5 : Int32} {w : ab_W}, k40 x0 x1 x2 x3 x4 x5 w = some (r, w1) → gj_G p l e (gj_R 3) s m args below meth c D ad tc A 6 (gj_Qi D ad tc A below args s r w1) 40 [some (.ref x0), some (.int x1), some (.int x2), some (.int x3), some (.int x4), some (.int x5)] [] w) {x0 : Nat} {x1 : Int32} {x2 : Int32} {x3 : Int32} {x4 : Int32} {x5 : Int32} {w : ab_W} (h : sX9_alike_108 k22 k40 x0 x1 x2 x3 x4 x5 w = some (r, w1)) : gj_G p l e (gj_R 3) s m args below meth c D ad tc A 6 (gj_Qi D ad tc A below args s r w1) 108 [some (.ref x0), some (.int x1), some (.int x2), some (.int x3), some (.int x4), some (.int x5)] [] w := by
  unfold sX9_alike_108 at h
  refine gj_iinc C (pc' := 111) (i := 5) (v := _ + 1) (lv' := [_, _, _, _, _, _]) rfl dX9_alike_108 rfl rfl (by decide) rfl rfl ?_
  refine gj_goto C (tgt := 40) dX9_alike_111 rfl ?_
  refine gj_drop (lv' := [some _, some _, some _, some _, some _, some _]) (And.intro rfl (And.intro rfl (And.intro rfl (And.intro rfl (And.intro rfl (And.intro rfl True.intro)))))) ?_
  exact hk40 h
set_option maxHeartbeats 4000000 in
set_option maxRecDepth 100000 in
theorem kX9_alike_107 {p : Program} {l : Launch} {e : Env} {s : State} {m : MethodId} {args : Array Value} {below : List Frame} {meth : Method} {c : Code} {D : va_G} {ad : Nat → Nat} {tc : Nat → ClassId} {A : Nat → Prop} (C : gj_C p s m args meth c D ad tc A cX9_alike 6 (some .int) RX9) {r : Int32} {w1 : ab_W} {k22 : Nat → Int32 → Int32 → Int32 → Int32 → ab_W → Option (Int32 × ab_W)} {k40 : Nat → Int32 → Int32 → Int32 → Int32 → Int32 → ab_W → Option (Int32 × ab_W)} (hk22 : ∀ {x0 : Nat} {x1 : Int32} {x2 : Int32} {x3 : Int32} {x4 : Int32} {w : ab_W}, k22 x0 x1 x2 x3 x4 w = some (r, w1) → gj_G p l e (gj_R 3) s m args below meth c D ad tc A 6 (gj_Qi D ad tc A below args s r w1) 22 [some (.ref x0), some (.int x1), some (.int x2), some (.int x3), some (.int x4), none] [] w) (hk40 : ∀ {x0 : Nat} {x1 : Int32} {x2 : Int32} {x3 : Int32} {x4 : Int32} {x5 : Int32} {w : ab_W}, k40 x0 x1 x2 x3 x4 x5 w = some (r, w1) → gj_G p l e (gj_R 3) s m args below meth c D ad tc A 6 (gj_Qi D ad tc A below args s r w1) 40 [some (.ref x0), some (.int x1), some (.int x2), some (.int x3), some (.int x4), some (.int x5)] [] w) {x0 : Nat} {x1 : Int32} {x2 : Int32} {x4 : Int32} {x5 : Int32} {p0 : Int32} {w : ab_W} (h : sX9_alike_107 k22 k40 x0 x1 x2 x4 x5 p0 w = some (r, w1)) : gj_G p l e (gj_R 3) s m args below meth c D ad tc A 6 (gj_Qi D ad tc A below args s r w1) 107 [some (.ref x0), some (.int x1), some (.int x2), none, some (.int x4), some (.int x5)] [.int p0] w := by
  unfold sX9_alike_107 at h
  refine gj_istore_n C (pc' := 108) (i := 3) (lv' := [_, _, _, _, _, _]) rfl dX9_alike_107 rfl (by decide) rfl rfl ?_
  refine gj_drop (lv' := [some _, some _, some _, some _, some _, some _]) (And.intro rfl (And.intro rfl (And.intro rfl (And.intro rfl (And.intro rfl (And.intro rfl True.intro)))))) ?_
  exact kX9_alike_108 C (fun h => hk22 h) (fun h => hk40 h) h
set_option maxHeartbeats 4000000 in
set_option maxRecDepth 100000 in
theorem kX9_alike_40 {p : Program} {l : Launch} {e : Env} {s : State} {m : MethodId} {args : Array Value} {below : List Frame} {meth : Method} {c : Code} {D : va_G} {ad : Nat → Nat} {tc : Nat → ClassId} {A : Nat → Prop} (C : gj_C p s m args meth c D ad tc A cX9_alike 6 (some .int) RX9) {r : Int32} {w1 : ab_W} {k22 : Nat → Int32 → Int32 → Int32 → Int32 → ab_W → Option (Int32 × ab_W)} (hk22 : ∀ {x0 : Nat} {x1 : Int32} {x2 : Int32} {x3 : Int32} {x4 : Int32} {w : ab_W}, k22 x0 x1 x2 x3 x4 w = some (r, w1) → gj_G p l e (gj_R 3) s m args below meth c D ad tc A 6 (gj_Qi D ad tc A below args s r w1) 22 [some (.ref x0), some (.int x1), some (.int x2), some (.int x3), some (.int x4), none] [] w) : ∀ {n : Nat} {x0 : Nat} {x1 : Int32} {x2 : Int32} {x3 : Int32} {x4 : Int32} {x5 : Int32} {w : ab_W}, sX9_alike_40 k22 n x0 x1 x2 x3 x4 x5 w = some (r, w1) → gj_G p l e (gj_R 3) s m args below meth c D ad tc A 6 (gj_Qi D ad tc A below args s r w1) 40 [some (.ref x0), some (.int x1), some (.int x2), some (.int x3), some (.int x4), some (.int x5)] [] w := by
  intro n
  induction n with
  | zero =>
    intros
    rename_i h
    cases h
  | succ n ih =>
    intro x0 x1 x2 x3 x4 x5 w h
    rw [sX9_alike_40] at h
    refine gj_iload C (pc' := 42) (i := 5) rfl dX9_alike_40 rfl ?_
    refine gj_aload_n C (pc' := 43) (i := 0) rfl dX9_alike_42 rfl rfl ?_
    refine gj_getR C (pc' := 46) rfl dX9_alike_43 wf_X9_30 h (fun v1 h => ?_)
    refine gj_getI C (pc' := 49) rfl dX9_alike_46 wf_X9_70 h (fun v2 h => ?_)
    refine gj_icmp_ge C (pc' := 52) (tgt := 114) rfl dX9_alike_49 rfl h (fun h => ?_) (fun h => ?_)
    · refine gj_aload_n C (pc' := 53) (i := 0) rfl dX9_alike_52 rfl rfl ?_
      refine gj_getR C (pc' := 56) rfl dX9_alike_53 wf_X9_23 h (fun v3 h => ?_)
      refine gj_aload_n C (pc' := 57) (i := 0) rfl dX9_alike_56 rfl rfl ?_
      refine gj_getR C (pc' := 60) rfl dX9_alike_57 wf_X9_30 h (fun v4 h => ?_)
      refine gj_getR C (pc' := 63) rfl dX9_alike_60 wf_X9_81 h (fun v5 h => ?_)
      refine gj_iload C (pc' := 65) (i := 4) rfl dX9_alike_63 rfl ?_
      refine gj_rald C (pc' := 66) (t := 1) rfl dX9_alike_65 rfl h (fun v6 h => ?_)
      refine gj_getI C (pc' := 69) rfl dX9_alike_66 wf_X9_96 h (fun v7 h => ?_)
      refine gj_aload_n C (pc' := 70) (i := 0) rfl dX9_alike_69 rfl rfl ?_
      refine gj_getR C (pc' := 73) rfl dX9_alike_70 wf_X9_30 h (fun v8 h => ?_)
      refine gj_getR C (pc' := 76) rfl dX9_alike_73 wf_X9_81 h (fun v9 h => ?_)
      refine gj_iload C (pc' := 78) (i := 5) rfl dX9_alike_76 rfl ?_
      refine gj_rald C (pc' := 79) (t := 1) rfl dX9_alike_78 rfl h (fun v10 h => ?_)
      refine gj_getI C (pc' := 82) rfl dX9_alike_79 wf_X9_96 h (fun v11 h => ?_)
      refine gj_callVi C (pc' := 85) rfl dX9_alike_82 wm_X9_195 uX6_lookAlike h (kX6_lookAlike _ _ _ _) (by omega) rfl rfl (Nat.le_of_ble_eq_true rfl) (fun v12 w13 h => ?_)
      refine gj_if_eq C (pc' := 88) (tgt := 108) rfl dX9_alike_85 rfl h (fun h => ?_) (fun h => ?_)
      · refine gj_drop (lv' := [some _, some _, some _, some _, some _, some _]) (And.intro rfl (And.intro rfl (And.intro rfl (And.intro rfl (And.intro rfl (And.intro rfl True.intro)))))) ?_
        exact kX9_alike_108 C (fun h => hk22 h) (fun h => ih h) h
      · refine gj_iinc C (pc' := 91) (i := 2) (v := _ + 1) (lv' := [_, _, _, _, _, _]) rfl dX9_alike_88 rfl rfl (by decide) rfl rfl ?_
        refine gj_iload_n C (pc' := 92) (i := 3) rfl dX9_alike_91 rfl rfl ?_
        refine gj_if_ge C (pc' := 95) (tgt := 106) rfl dX9_alike_92 rfl h (fun h => ?_) (fun h => ?_)
        · refine gj_bipush C (pc' := 97) (v := 10) rfl dX9_alike_95 (by decide) ?_
          refine gj_iload C (pc' := 99) (i := 4) rfl dX9_alike_97 rfl ?_
          refine gj_imul C (pc' := 100) rfl dX9_alike_99 ?_
          refine gj_iload C (pc' := 102) (i := 5) rfl dX9_alike_100 rfl ?_
          refine gj_iadd C (pc' := 103) rfl dX9_alike_102 ?_
          refine gj_goto C (tgt := 107) dX9_alike_103 rfl ?_
          refine gj_drop (lv' := [some _, some _, some _, none, some _, some _]) (And.intro rfl (And.intro rfl (And.intro rfl (And.intro rfl (And.intro rfl True.intro))))) ?_
          exact kX9_alike_107 C (fun h => hk22 h) (fun h => ih h) h
        · refine gj_iload_n C (pc' := 107) (i := 3) rfl dX9_alike_106 rfl rfl ?_
          refine gj_drop (lv' := [some _, some _, some _, none, some _, some _]) (And.intro rfl (And.intro rfl (And.intro rfl (And.intro rfl (And.intro rfl True.intro))))) ?_
          exact kX9_alike_107 C (fun h => hk22 h) (fun h => ih h) h
    · refine gj_iinc C (pc' := 117) (i := 4) (v := _ + 1) (lv' := [_, _, _, _, _, _]) rfl dX9_alike_114 rfl rfl (by decide) rfl rfl ?_
      refine gj_goto C (tgt := 22) dX9_alike_117 rfl ?_
      refine gj_drop (lv' := [some _, some _, some _, some _, some _, none]) (And.intro rfl (And.intro rfl (And.intro rfl (And.intro rfl (And.intro rfl True.intro))))) ?_
      exact hk22 h
set_option maxHeartbeats 4000000 in
set_option maxRecDepth 100000 in
theorem kX9_alike_22 {p : Program} {l : Launch} {e : Env} {s : State} {m : MethodId} {args : Array Value} {below : List Frame} {meth : Method} {c : Code} {D : va_G} {ad : Nat → Nat} {tc : Nat → ClassId} {A : Nat → Prop} (C : gj_C p s m args meth c D ad tc A cX9_alike 6 (some .int) RX9) {r : Int32} {w1 : ab_W} : ∀ {n : Nat} {x0 : Nat} {x1 : Int32} {x2 : Int32} {x3 : Int32} {x4 : Int32} {w : ab_W}, sX9_alike_22 n x0 x1 x2 x3 x4 w = some (r, w1) → gj_G p l e (gj_R 3) s m args below meth c D ad tc A 6 (gj_Qi D ad tc A below args s r w1) 22 [some (.ref x0), some (.int x1), some (.int x2), some (.int x3), some (.int x4), none] [] w := by
  intro n
  induction n with
  | zero =>
    intros
    rename_i h
    cases h
  | succ n ih =>
    intro x0 x1 x2 x3 x4 w h
    rw [sX9_alike_22] at h
    refine gj_iload C (pc' := 24) (i := 4) rfl dX9_alike_22 rfl ?_
    refine gj_aload_n C (pc' := 25) (i := 0) rfl dX9_alike_24 rfl rfl ?_
    refine gj_getR C (pc' := 28) rfl dX9_alike_25 wf_X9_30 h (fun v1 h => ?_)
    refine gj_getI C (pc' := 31) rfl dX9_alike_28 wf_X9_70 h (fun v2 h => ?_)
    refine gj_icmp_ge C (pc' := 34) (tgt := 120) rfl dX9_alike_31 rfl h (fun h => ?_) (fun h => ?_)
    · refine gj_iload C (pc' := 36) (i := 4) rfl dX9_alike_34 rfl ?_
      refine gj_iconst C (pc' := 37) (v := 1) rfl dX9_alike_36 (by decide) ?_
      refine gj_iadd C (pc' := 38) rfl dX9_alike_37 ?_
      refine gj_istore C (pc' := 40) (i := 5) (lv' := [_, _, _, _, _, _]) rfl dX9_alike_38 (by decide) rfl rfl ?_
      refine gj_drop (lv' := [some _, some _, some _, some _, some _, some _]) (And.intro rfl (And.intro rfl (And.intro rfl (And.intro rfl (And.intro rfl (And.intro rfl True.intro)))))) ?_
      exact kX9_alike_40 C (fun h => ih h) h
    · refine gj_iload_n C (pc' := 121) (i := 1) rfl dX9_alike_120 rfl rfl ?_
      refine gj_if_ne C (pc' := 124) (tgt := 128) rfl dX9_alike_121 rfl h (fun h => ?_) (fun h => ?_)
      · refine gj_iload_n C (pc' := 125) (i := 2) rfl dX9_alike_124 rfl rfl ?_
        refine gj_goto C (tgt := 133) dX9_alike_125 rfl ?_
        exact gj_iret C dX9_alike_133 h
      · refine gj_aload_n C (pc' := 129) (i := 0) rfl dX9_alike_128 rfl rfl ?_
        refine gj_iload_n C (pc' := 130) (i := 3) rfl dX9_alike_129 rfl rfl ?_
        refine gj_callVi C (pc' := 133) rfl dX9_alike_130 wm_X9_179 uX9_orNone h (kX9_orNone _ _ _) (by omega) rfl rfl (Nat.le_of_ble_eq_true rfl) (fun v3 w4 h => ?_)
        exact gj_iret C dX9_alike_133 h
set_option maxHeartbeats 4000000 in
set_option maxRecDepth 100000 in
theorem kX9_alike : ∀ (x0 : Nat) (x1 : Int32) (w : ab_W) (r : Int32) (w1 : ab_W), sX9_alike x0 x1 w = some (r, w1) → gj_Mi yX9_alike cX9_alike 6 (some .int) 3 [.ref x0, .int x1] w r w1 ∧ ab_is w 9 x0 = true := by
  intro x0 x1 w r w1 h
  unfold sX9_alike at h
  obtain ⟨hi, h⟩ := ab_ite h
  refine ⟨?_, hi⟩
  refine gj_Mi_of RX9 [some (.ref x0), some (.int x1), none, none, none, none] (by decide +kernel) rfl (Nat.le_of_ble_eq_true rfl) rfl (fun p l e s m args below meth c D ad tc A C => ?_)
  refine gj_iload_n C (pc' := 1) (i := 1) rfl dX9_alike_0 rfl rfl ?_
  refine gj_iconst C (pc' := 2) (v := 0) rfl dX9_alike_1 (by decide) ?_
  refine gj_iconst C (pc' := 3) (v := 1) rfl dX9_alike_2 (by decide) ?_
  refine gj_callSi C (pc' := 6) rfl dX9_alike_3 wm_X9_62 uX9_within h (kX9_within _ _ _ _) (by omega) rfl rfl (Nat.le_of_ble_eq_true rfl) (fun v1 w2 h => ?_)
  refine gj_if_ne C (pc' := 9) (tgt := 15) rfl dX9_alike_6 rfl h (fun h => ?_) (fun h => ?_)
  · refine gj_aload_n C (pc' := 10) (i := 0) rfl dX9_alike_9 rfl rfl ?_
    refine gj_iconst C (pc' := 11) (v := 1) rfl dX9_alike_10 (by decide) ?_
    refine gj_callVi C (pc' := 14) rfl dX9_alike_11 wm_X9_66 uX9_fail h (kX9_fail _ _ _) (by omega) rfl rfl (Nat.le_of_ble_eq_true rfl) (fun v3 w4 h => ?_)
    exact gj_iret C dX9_alike_14 h
  · refine gj_iconst C (pc' := 16) (v := 0) rfl dX9_alike_15 (by decide) ?_
    refine gj_istore_n C (pc' := 17) (i := 2) (lv' := [_, _, _, _, _, _]) rfl dX9_alike_16 rfl (by decide) rfl rfl ?_
    refine gj_iconst C (pc' := 18) (v := (-1)) rfl dX9_alike_17 (by decide) ?_
    refine gj_istore_n C (pc' := 19) (i := 3) (lv' := [_, _, _, _, _, _]) rfl dX9_alike_18 rfl (by decide) rfl rfl ?_
    refine gj_iconst C (pc' := 20) (v := 0) rfl dX9_alike_19 (by decide) ?_
    refine gj_istore C (pc' := 22) (i := 4) (lv' := [_, _, _, _, _, _]) rfl dX9_alike_20 (by decide) rfl rfl ?_
    refine gj_drop (lv' := [some _, some _, some _, some _, some _, none]) (And.intro rfl (And.intro rfl (And.intro rfl (And.intro rfl (And.intro rfl True.intro))))) ?_
    exact kX9_alike_22 C h
