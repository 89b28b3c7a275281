set_option maxHeartbeats 4000000 in
set_option maxRecDepth 100000 in
theorem kX10_isSheet : ∀ (x0 : Int32) (w : ab_W) (r : Int32) (w1 : ab_W), sX10_isSheet x0 w = some (r, w1) → gj_Mi yX10_isSheet cX10_isSheet 1 (some .boolean) 1 [.int x0] w r w1 := by
  intro x0 w r w1 h
  unfold sX10_isSheet at h
  refine gj_Mi_of RX10 [some (.int x0)] (by decide +kernel) rfl (Nat.le_of_ble_eq_true rfl) rfl (fun p l e s m args below meth c D ad tc A C => ?_)
  refine gj_iload_n C (pc' := 1) (i := 0) rfl dX10_isSheet_0 rfl rfl ?_
  refine gj_iconst C (pc' := 2) (v := 0) rfl dX10_isSheet_1 (by decide) ?_
  refine gj_iconst C (pc' := 3) (v := 3) rfl dX10_isSheet_2 (by decide) ?_
  refine gj_callSi C (pc' := 6) rfl dX10_isSheet_3 wm_X10_47 uX10_in h (kX10_in _ _ _ _) (by omega) rfl rfl (Nat.le_of_ble_eq_true rfl) (fun v1 w2 h => ?_)
  exact gj_zret C dX10_isSheet_6 h
set_option maxHeartbeats 4000000 in
set_option maxRecDepth 100000 in
theorem kX10_isFarSo_52 {p : Program} {l : Launch} {e : Env} {s : State} {m : MethodId} {args : Array Value} {below : List Frame} {meth : Method} {c : Code} {D : va_G} {ad : Nat → Nat} {tc : Nat → ClassId} {A : Nat → Prop} (C : gj_C p s m args meth c D ad tc A cX10_isFarSo 5 (some .boolean) RX10) {r : Int32} {w1 : ab_W} {k10 : Nat → Int32 → Int32 → Int32 → ab_W → Option (Int32 × ab_W)} (hk10 : ∀ {x0 : Nat} {x1 : Int32} {x3 : Int32} {x4 : Int32} {w : ab_W}, k10 x0 x1 x3 x4 w = some (r, w1) → gj_G p l e (gj_R 109) s m args below meth c D ad tc A 5 (gj_Qi D ad tc A below args s r w1) 10 [some (.ref x0), some (.int x1), none, some (.int x3), some (.int x4)] [] w) {x0 : Nat} {x1 : Int32} {x4 : Int32} {p0 : Int32} {w : ab_W} (h : sX10_isFarSo_52 k10 x0 x1 x4 p0 w = some (r, w1)) : gj_G p l e (gj_R 109) s m args below meth c D ad tc A 5 (gj_Qi D ad tc A below args s r w1) 52 [some (.ref x0), some (.int x1), none, none, some (.int x4)] [.int p0] w := by
  unfold sX10_isFarSo_52 at h
  refine gj_istore_n C (pc' := 53) (i := 3) (lv' := [_, _, _, _, _]) rfl dX10_isFarSo_52 rfl (by decide) rfl rfl ?_
  refine gj_iinc C (pc' := 56) (i := 4) (v := _ + 1) (lv' := [_, _, _, _, _]) rfl dX10_isFarSo_53 rfl rfl (by decide) rfl rfl ?_
  refine gj_goto C (tgt := 10) dX10_isFarSo_56 rfl ?_
  refine gj_drop (lv' := [some _, some _, none, some _, some _]) (And.intro rfl (And.intro rfl (And.intro rfl (And.intro rfl True.intro)))) ?_
  exact hk10 h
set_option maxHeartbeats 4000000 in
set_option maxRecDepth 100000 in
theorem kX10_isFarSo_51 {p : Program} {l : Launch} {e : Env} {s : State} {m : MethodId} {args : Array Value} {below : List Frame} {meth : Method} {c : Code} {D : va_G} {ad : Nat → Nat} {tc : Nat → ClassId} {A : Nat → Prop} (C : gj_C p s m args meth c D ad tc A cX10_isFarSo 5 (some .boolean) RX10) {r : Int32} {w1 : ab_W} {k10 : Nat → Int32 → Int32 → Int32 → ab_W → Option (Int32 × ab_W)} (hk10 : ∀ {x0 : Nat} {x1 : Int32} {x3 : Int32} {x4 : Int32} {w : ab_W}, k10 x0 x1 x3 x4 w = some (r, w1) → gj_G p l e (gj_R 109) s m args below meth c D ad tc A 5 (gj_Qi D ad tc A below args s r w1) 10 [some (.ref x0), some (.int x1), none, some (.int x3), some (.int x4)] [] w) {x0 : Nat} {x1 : Int32} {x4 : Int32} {w : ab_W} (h : sX10_isFarSo_51 k10 x0 x1 x4 w = some (r, w1)) : gj_G p l e (gj_R 109) s m args below meth c D ad tc A 5 (gj_Qi D ad tc A below args s r w1) 51 [some (.ref x0), some (.int x1), none, none, some (.int x4)] [] w := by
  unfold sX10_isFarSo_51 at h
  refine gj_iconst C (pc' := 52) (v := 0) rfl dX10_isFarSo_51 (by decide) ?_
  refine gj_drop (lv' := [some _, some _, none, none, some _]) (And.intro rfl (And.intro rfl (And.intro rfl True.intro))) ?_
  exact kX10_isFarSo_52 C (fun h => hk10 h) h
set_option maxHeartbeats 4000000 in
set_option maxRecDepth 100000 in
theorem kX10_isFarSo_10 {p : Program} {l : Launch} {e : Env} {s : State} {m : MethodId} {args : Array Value} {below : List Frame} {meth : Method} {c : Code} {D : va_G} {ad : Nat → Nat} {tc : Nat → ClassId} {A : Nat → Prop} (C : gj_C p s m args meth c D ad tc A cX10_isFarSo 5 (some .boolean) RX10) {r : Int32} {w1 : ab_W} : ∀ {n : Nat} {x0 : Nat} {x1 : Int32} {x3 : Int32} {x4 : Int32} {w : ab_W}, sX10_isFarSo_10 n x0 x1 x3 x4 w = some (r, w1) → gj_G p l e (gj_R 109) s m args below meth c D ad tc A 5 (gj_Qi D ad tc A below args s r w1) 10 [some (.ref x0), some (.int x1), none, some (.int x3), some (.int x4)] [] w := by
  intro n
  induction n with
  | zero =>
    intros
    rename_i h
    cases h
  | succ n ih =>
    intro x0 x1 x3 x4 w h
    rw [sX10_isFarSo_10] at h
    refine gj_iload C (pc' := 12) (i := 4) rfl dX10_isFarSo_10 rfl ?_
    refine gj_aload_n C (pc' := 13) (i := 0) rfl dX10_isFarSo_12 rfl rfl ?_
    refine gj_getR C (pc' := 16) rfl dX10_isFarSo_13 wf_X10_7 h (fun v1 h => ?_)
    refine gj_iconst C (pc' := 17) (v := 2) rfl dX10_isFarSo_16 (by decide) ?_
    refine gj_iald C (pc' := 18) rfl dX10_isFarSo_17 h (fun v2 h => ?_)
    refine gj_icmp_ge C (pc' := 21) (tgt := 59) rfl dX10_isFarSo_18 rfl h (fun h => ?_) (fun h => ?_)
    · refine gj_iload_n C (pc' := 22) (i := 3) rfl dX10_isFarSo_21 rfl rfl ?_
      refine gj_if_eq C (pc' := 25) (tgt := 51) rfl dX10_isFarSo_22 rfl h (fun h => ?_) (fun h => ?_)
      · refine gj_drop (lv' := [some _, some _, none, none, some _]) (And.intro rfl (And.intro rfl (And.intro rfl True.intro))) ?_
        exact kX10_isFarSo_51 C (fun h => ih h) h
      · refine gj_aload_n C (pc' := 26) (i := 0) rfl dX10_isFarSo_25 rfl rfl ?_
        refine gj_iload C (pc' := 28) (i := 4) rfl dX10_isFarSo_26 rfl ?_
        refine gj_iconst C (pc' := 29) (v := 5) rfl dX10_isFarSo_28 (by decide) ?_
        refine gj_callVi C (pc' := 32) rfl dX10_isFarSo_29 wm_X10_65 uX10_its h (kX10_its _ _ _ _) (by omega) rfl rfl (Nat.le_of_ble_eq_true rfl) (fun v3 w4 h => ?_)
        refine gj_aload_n C (pc' := 33) (i := 0) rfl dX10_isFarSo_32 rfl rfl ?_
        refine gj_getR C (pc' := 36) rfl dX10_isFarSo_33 wf_X10_37 h (fun v5 h => ?_)
        refine gj_bipush C (pc' := 38) (v := 40) rfl dX10_isFarSo_36 (by decide) ?_
        refine gj_iload_n C (pc' := 39) (i := 1) rfl dX10_isFarSo_38 rfl rfl ?_
        refine gj_imul C (pc' := 40) rfl dX10_isFarSo_39 ?_
        refine gj_iload C (pc' := 42) (i := 4) rfl dX10_isFarSo_40 rfl ?_
        refine gj_iadd C (pc' := 43) rfl dX10_isFarSo_42 ?_
        refine gj_iald C (pc' := 44) rfl dX10_isFarSo_43 h (fun v6 h => ?_)
        refine gj_icmp_ne C (pc' := 47) (tgt := 51) rfl dX10_isFarSo_44 rfl h (fun h => ?_) (fun h => ?_)
        · refine gj_iconst C (pc' := 48) (v := 1) rfl dX10_isFarSo_47 (by decide) ?_
          refine gj_goto C (tgt := 52) dX10_isFarSo_48 rfl ?_
          refine gj_drop (lv' := [some _, some _, none, none, some _]) (And.intro rfl (And.intro rfl (And.intro rfl True.intro))) ?_
          exact kX10_isFarSo_52 C (fun h => ih h) h
        · refine gj_drop (lv' := [some _, some _, none, none, some _]) (And.intro rfl (And.intro rfl (And.intro rfl True.intro))) ?_
          exact kX10_isFarSo_51 C (fun h => ih h) h
    · refine gj_iload_n C (pc' := 60) (i := 3) rfl dX10_isFarSo_59 rfl rfl ?_
      exact gj_zret C dX10_isFarSo_60 h
set_option maxHeartbeats 4000000 in
set_option maxRecDepth 100000 in
theorem kX10_isFarSo : ∀ (x0 : Nat) (x1 : Int32) (x2 : Int32) (w : ab_W) (r : Int32) (w1 : ab_W), sX10_isFarSo x0 x1 x2 w = some (r, w1) → gj_Mi yX10_isFarSo cX10_isFarSo 5 (some .boolean) 109 [.ref x0, .int x1, .int x2] w r w1 ∧ ab_is w 10 x0 = true := by
  intro x0 x1 x2 w r w1 h
  unfold sX10_isFarSo at h
  obtain ⟨hi, h⟩ := ab_ite h
  refine ⟨?_, hi⟩
  refine gj_Mi_of RX10 [some (.ref x0), some (.int x1), some (.int x2), none, none] (by decide +kernel) rfl (Nat.le_of_ble_eq_true rfl) rfl (fun p l e s m args below meth c D ad tc A C => ?_)
  refine gj_iconst C (pc' := 1) (v := 1) rfl dX10_isFarSo_0 (by decide) ?_
  refine gj_istore_n C (pc' := 2) (i := 3) (lv' := [_, _, _, _, _]) rfl dX10_isFarSo_1 rfl (by decide) rfl rfl ?_
  refine gj_aload_n C (pc' := 3) (i := 0) rfl dX10_isFarSo_2 rfl rfl ?_
  refine gj_iload_n C (pc' := 4) (i := 2) rfl dX10_isFarSo_3 rfl rfl ?_
  refine gj_callVv C (pc' := 7) rfl dX10_isFarSo_4 wm_X10_193 uX10_passes h (kX10_passes _ _ _) (by omega) rfl rfl (Nat.le_of_ble_eq_true rfl) (fun w1 h => ?_)
  refine gj_iconst C (pc' := 8) (v := 0) rfl dX10_isFarSo_7 (by decide) ?_
  refine gj_istore C (pc' := 10) (i := 4) (lv' := [_, _, _, _, _]) rfl dX10_isFarSo_8 (by decide) rfl rfl ?_
  refine gj_drop (lv' := [some _, some _, none, some _, some _]) (And.intro rfl (And.intro rfl (And.intro rfl (And.intro rfl True.intro)))) ?_
  exact kX10_isFarSo_10 C h
set_option maxHeartbeats 4000000 in
set_option maxRecDepth 100000 in
theorem kX10_fits_16 {p : Program} {l : Launch} {e : Env} {s : State} {m : MethodId} {args : Array Value} {below : List Frame} {meth : Method} {c : Code} {D : va_G} {ad : Nat → Nat} {tc : Nat → ClassId} {A : Nat → Prop} (C : gj_C p s m args meth c D ad tc A cX10_fits 6 (some .int) RX10) {r : Int32} {w1 : ab_W} {x0 : Nat} {w : ab_W} (h : sX10_fits_16 x0 w = some (r, w1)) : gj_G p l e (gj_R 110) s m args below meth c D ad tc A 6 (gj_Qi D ad tc A below args s r w1) 16 [some (.ref x0), none, none, none, none, none] [] w := by
  unfold sX10_fits_16 at h
  refine gj_aload_n C (pc' := 17) (i := 0) rfl dX10_fits_16 rfl rfl ?_
  refine gj_ldc C (pc' := 19) rfl dX10_fits_17 wk_X10_51 ?_
  refine gj_callVi C (pc' := 22) rfl dX10_fits_19 wm_X10_52 uX10_errs h (kX10_errs _ _ _) (by omega) rfl rfl (Nat.le_of_ble_eq_true rfl) (fun v1 w2 h => ?_)
  exact gj_iret C dX10_fits_22 h
set_option maxHeartbeats 4000000 in
set_option maxRecDepth 100000 in
theorem kX10_fits_71 {p : Program} {l : Launch} {e : Env} {s : State} {m : MethodId} {args : Array Value} {below : List Frame} {meth : Method} {c : Code} {D : va_G} {ad : Nat → Nat} {tc : Nat → ClassId} {A : Nat → Prop} (C : gj_C p s m args meth c D ad tc A cX10_fits 6 (some .int) RX10) {r : Int32} {w1 : ab_W} {x0 : Nat} {w : ab_W} (h : sX10_fits_71 x0 w = some (r, w1)) : gj_G p l e (gj_R 110) s m args below meth c D ad tc A 6 (gj_Qi D ad tc A below args s r w1) 71 [some (.ref x0), none, none, none, none, none] [] w := by
  unfold sX10_fits_71 at h
  refine gj_aload_n C (pc' := 72) (i := 0) rfl dX10_fits_71 rfl rfl ?_
  refine gj_ldc C (pc' := 74) rfl dX10_fits_72 wk_X10_182 ?_
  refine gj_callVi C (pc' := 77) rfl dX10_fits_74 wm_X10_52 uX10_errs h (kX10_errs _ _ _) (by omega) rfl rfl (Nat.le_of_ble_eq_true rfl) (fun v1 w2 h => ?_)
  exact gj_iret C dX10_fits_77 h
set_option maxHeartbeats 4000000 in
set_option maxRecDepth 100000 in
theorem kX10_fits_141 {p : Program} {l : Launch} {e : Env} {s : State} {m : MethodId} {args : Array Value} {below : List Frame} {meth : Method} {c : Code} {D : va_G} {ad : Nat → Nat} {tc : Nat → ClassId} {A : Nat → Prop} (C : gj_C p s m args meth c D ad tc A cX10_fits 6 (some .int) RX10) {r : Int32} {w1 : ab_W} {k96 : Nat → Int32 → Int32 → Int32 → Int32 → Int32 → ab_W → Option (Int32 × ab_W)} (hk96 : ∀ {x0 : Nat} {x1 : Int32} {x2 : Int32} {x3 : Int32} {x4 : Int32} {x5 : Int32} {w : ab_W}, k96 x0 x1 x2 x3 x4 x5 w = some (r, w1) → gj_G p l e (gj_R 110) s m args below meth c D ad tc A 6 (gj_Qi D ad tc A below args s r w1) 96 [some (.ref x0), some (.int x1), some (.int x2), some (.int x3), some (.int x4), some (.int x5)] [] w) {x0 : Nat} {x1 : Int32} {x2 : Int32} {x3 : Int32} {x5 : Int32} {p0 : Int32} {p1 : Int32} {w : ab_W} (h : sX10_fits_141 k96 x0 x1 x2 x3 x5 p0 p1 w = some (r, w1)) : gj_G p l e (gj_R 110) s m args below meth c D ad tc A 6 (gj_Qi D ad tc A below args s r w1) 141 [some (.ref x0), some (.int x1), some (.int x2), some (.int x3), none, some (.int x5)] [.int p1, .int p0] w := by
  unfold sX10_fits_141 at h
  refine gj_ior C (pc' := 142) rfl dX10_fits_141 ?_
  refine gj_istore C (pc' := 144) (i := 4) (lv' := [_, _, _, _, _, _]) rfl dX10_fits_142 (by decide) rfl rfl ?_
  refine gj_aload_n C (pc' := 145) (i := 0) rfl dX10_fits_144 rfl rfl ?_
  refine gj_aload_n C (pc' := 146) (i := 0) rfl dX10_fits_145 rfl rfl ?_
  refine gj_getR C (pc' := 149) rfl dX10_fits_146 wf_X10_16 h (fun v1 h => ?_)
  refine gj_aload_n C (pc' := 150) (i := 0) rfl dX10_fits_149 rfl rfl ?_
  refine gj_getR C (pc' := 153) rfl dX10_fits_150 wf_X10_7 h (fun v2 h => ?_)
  refine gj_callVv C (pc' := 156) rfl dX10_fits_153 wm_X10_162 uX10_moveAll h (kX10_moveAll _ _ _ _) (by omega) rfl rfl (Nat.le_of_ble_eq_true rfl) (fun w3 h => ?_)
  refine gj_iinc C (pc' := 159) (i := 5) (v := _ + 1) (lv' := [_, _, _, _, _, _]) rfl dX10_fits_156 rfl rfl (by decide) rfl rfl ?_
  refine gj_goto C (tgt := 96) dX10_fits_159 rfl ?_
  refine gj_drop (lv' := [some _, some _, some _, some _, some _, some _]) (And.intro rfl (And.intro rfl (And.intro rfl (And.intro rfl (And.intro rfl (And.intro rfl True.intro)))))) ?_
  exact hk96 h
set_option maxHeartbeats 4000000 in
set_option maxRecDepth 100000 in
theorem kX10_fits_96 {p : Program} {l : Launch} {e : Env} {s : State} {m : MethodId} {args : Array Value} {below : List Frame} {meth : Method} {c : Code} {D : va_G} {ad : Nat → Nat} {tc : Nat → ClassId} {A : Nat → Prop} (C : gj_C p s m args meth c D ad tc A cX10_fits 6 (some .int) RX10) {r : Int32} {w1 : ab_W} : ∀ {n : Nat} {x0 : Nat} {x1 : Int32} {x2 : Int32} {x3 : Int32} {x4 : Int32} {x5 : Int32} {w : ab_W}, sX10_fits_96 n x0 x1 x2 x3 x4 x5 w = some (r, w1) → gj_G p l e (gj_R 110) s m args below meth c D ad tc A 6 (gj_Qi D ad tc A below args s r w1) 96 [some (.ref x0), some (.int x1), some (.int x2), some (.int x3), some (.int x4), some (.int x5)] [] w := by
  intro n
  induction n with
  | zero =>
    intros
    rename_i h
    cases h
  | succ n ih =>
    intro x0 x1 x2 x3 x4 x5 w h
    rw [sX10_fits_96] at h
    refine gj_iload C (pc' := 98) (i := 5) rfl dX10_fits_96 rfl ?_
    refine gj_bipush C (pc' := 100) (v := 10) rfl dX10_fits_98 (by decide) ?_
    refine gj_icmp_ge C (pc' := 103) (tgt := 162) rfl dX10_fits_100 rfl h (fun h => ?_) (fun h => ?_)
    · refine gj_aload_n C (pc' := 104) (i := 0) rfl dX10_fits_103 rfl rfl ?_
      refine gj_getR C (pc' := 107) rfl dX10_fits_104 wf_X10_7 h (fun v1 h => ?_)
      refine gj_bipush C (pc' := 109) (v := 7) rfl dX10_fits_107 (by decide) ?_
      refine gj_iload C (pc' := 111) (i := 5) rfl dX10_fits_109 rfl ?_
      refine gj_iast C (pc' := 112) rfl dX10_fits_111 h (fun w2 h => ?_)
      refine gj_iload C (pc' := 114) (i := 4) rfl dX10_fits_112 rfl ?_
      refine gj_aload_n C (pc' := 115) (i := 0) rfl dX10_fits_114 rfl rfl ?_
      refine gj_iload_n C (pc' := 116) (i := 1) rfl dX10_fits_115 rfl rfl ?_
      refine gj_aload_n C (pc' := 117) (i := 0) rfl dX10_fits_116 rfl rfl ?_
      refine gj_getR C (pc' := 120) rfl dX10_fits_117 wf_X10_37 h (fun v3 h => ?_)
      refine gj_bipush C (pc' := 122) (v := 40) rfl dX10_fits_120 (by decide) ?_
      refine gj_iload_n C (pc' := 123) (i := 1) rfl dX10_fits_122 rfl rfl ?_
      refine gj_imul C (pc' := 124) rfl dX10_fits_123 ?_
      refine gj_iload_n C (pc' := 125) (i := 3) rfl dX10_fits_124 rfl rfl ?_
      refine gj_iadd C (pc' := 126) rfl dX10_fits_125 ?_
      refine gj_iald C (pc' := 127) rfl dX10_fits_126 h (fun v4 h => ?_)
      refine gj_callVi C (pc' := 130) rfl dX10_fits_127 wm_X10_210 uX10_isFarSo h (kX10_isFarSo _ _ _ _) (by omega) rfl rfl (Nat.le_of_ble_eq_true rfl) (fun v5 w6 h => ?_)
      refine gj_if_eq C (pc' := 133) (tgt := 140) rfl dX10_fits_130 rfl h (fun h => ?_) (fun h => ?_)
      · refine gj_iconst C (pc' := 141) (v := 0) rfl dX10_fits_140 (by decide) ?_
        refine gj_drop (lv' := [some _, some _, some _, some _, none, some _]) (And.intro rfl (And.intro rfl (And.intro rfl (And.intro rfl (And.intro rfl True.intro))))) ?_
        exact kX10_fits_141 C (fun h => ih h) h
      · refine gj_iconst C (pc' := 134) (v := 1) rfl dX10_fits_133 (by decide) ?_
        refine gj_iload C (pc' := 136) (i := 5) rfl dX10_fits_134 rfl ?_
        refine gj_ishl C (pc' := 137) rfl dX10_fits_136 ?_
        refine gj_goto C (tgt := 141) dX10_fits_137 rfl ?_
        refine gj_drop (lv' := [some _, some _, some _, some _, none, some _]) (And.intro rfl (And.intro rfl (And.intro rfl (And.intro rfl (And.intro rfl True.intro))))) ?_
        exact kX10_fits_141 C (fun h => ih h) h
    · refine gj_iload_n C (pc' := 163) (i := 2) rfl dX10_fits_162 rfl rfl ?_
      refine gj_if_ne C (pc' := 166) (tgt := 171) rfl dX10_fits_163 rfl h (fun h => ?_) (fun h => ?_)
      · refine gj_iload C (pc' := 168) (i := 4) rfl dX10_fits_166 rfl ?_
        refine gj_goto C (tgt := 176) dX10_fits_168 rfl ?_
        exact gj_iret C dX10_fits_176 h
      · refine gj_iload C (pc' := 173) (i := 4) rfl dX10_fits_171 rfl ?_
        refine gj_callSi C (pc' := 176) rfl dX10_fits_173 wm_X10_179 uX10_bits h (kX10_bits _ _) (by omega) rfl rfl (Nat.le_of_ble_eq_true rfl) (fun v7 w8 h => ?_)
        exact gj_iret C dX10_fits_176 h
set_option maxHeartbeats 4000000 in
set_option maxRecDepth 100000 in
theorem kX10_fits : ∀ (x0 : Nat) (x1 : Int32) (x2 : Int32) (w : ab_W) (r : Int32) (w1 : ab_W), sX10_fits x0 x1 x2 w = some (r, w1) → gj_Mi yX10_fits cX10_fits 6 (some .int) 110 [.ref x0, .int x1, .int x2] w r w1 ∧ ab_is w 10 x0 = true := by
  intro x0 x1 x2 w r w1 h
  unfold sX10_fits at h
  obtain ⟨hi, h⟩ := ab_ite h
  refine ⟨?_, hi⟩
  refine gj_Mi_of RX10 [some (.ref x0), some (.int x1), some (.int x2), none, none, none] (by decide +kernel) rfl (Nat.le_of_ble_eq_true rfl) rfl (fun p l e s m args below meth c D ad tc A C => ?_)
  refine gj_iload_n C (pc' := 1) (i := 1) rfl dX10_fits_0 rfl rfl ?_
  refine gj_callSi C (pc' := 4) rfl dX10_fits_1 wm_X10_207 uX10_isSheet h (kX10_isSheet _ _) (by omega) rfl rfl (Nat.le_of_ble_eq_true rfl) (fun v1 w2 h => ?_)
  refine gj_if_eq C (pc' := 7) (tgt := 16) rfl dX10_fits_4 rfl h (fun h => ?_) (fun h => ?_)
  · refine gj_drop (lv' := [some _, none, none, none, none, none]) (And.intro rfl True.intro) ?_
    exact kX10_fits_16 C h
  · refine gj_iload_n C (pc' := 8) (i := 2) rfl dX10_fits_7 rfl rfl ?_
    refine gj_iconst C (pc' := 9) (v := 0) rfl dX10_fits_8 (by decide) ?_
    refine gj_iconst C (pc' := 10) (v := 1) rfl dX10_fits_9 (by decide) ?_
    refine gj_callSi C (pc' := 13) rfl dX10_fits_10 wm_X10_47 uX10_in h (kX10_in _ _ _ _) (by omega) rfl rfl (Nat.le_of_ble_eq_true rfl) (fun v3 w4 h => ?_)
    refine gj_if_ne C (pc' := 16) (tgt := 23) rfl dX10_fits_13 rfl h (fun h => ?_) (fun h => ?_)
    · refine gj_drop (lv' := [some _, none, none, none, none, none]) (And.intro rfl True.intro) ?_
      exact kX10_fits_16 C h
    · refine gj_aload_n C (pc' := 24) (i := 0) rfl dX10_fits_23 rfl rfl ?_
      refine gj_getR C (pc' := 27) rfl dX10_fits_24 wf_X10_7 h (fun v5 h => ?_)
      refine gj_iconst C (pc' := 28) (v := 2) rfl dX10_fits_27 (by decide) ?_
      refine gj_iald C (pc' := 29) rfl dX10_fits_28 h (fun v6 h => ?_)
      refine gj_istore_n C (pc' := 30) (i := 3) (lv' := [_, _, _, _, _, _]) rfl dX10_fits_29 rfl (by decide) rfl rfl ?_
      refine gj_aload_n C (pc' := 31) (i := 0) rfl dX10_fits_30 rfl rfl ?_
      refine gj_getR C (pc' := 34) rfl dX10_fits_31 wf_X10_31 h (fun v7 h => ?_)
      refine gj_iload_n C (pc' := 35) (i := 1) rfl dX10_fits_34 rfl rfl ?_
      refine gj_iald C (pc' := 36) rfl dX10_fits_35 h (fun v8 h => ?_)
      refine gj_if_eq C (pc' := 39) (tgt := 71) rfl dX10_fits_36 rfl h (fun h => ?_) (fun h => ?_)
      · refine gj_drop (lv' := [some _, none, none, none, none, none]) (And.intro rfl True.intro) ?_
        exact kX10_fits_71 C h
      · refine gj_aload_n C (pc' := 40) (i := 0) rfl dX10_fits_39 rfl rfl ?_
        refine gj_getR C (pc' := 43) rfl dX10_fits_40 wf_X10_34 h (fun v9 h => ?_)
        refine gj_iload_n C (pc' := 44) (i := 1) rfl dX10_fits_43 rfl rfl ?_
        refine gj_iald C (pc' := 45) rfl dX10_fits_44 h (fun v10 h => ?_)
        refine gj_iload_n C (pc' := 46) (i := 3) rfl dX10_fits_45 rfl rfl ?_
        refine gj_iconst C (pc' := 47) (v := 1) rfl dX10_fits_46 (by decide) ?_
        refine gj_iadd C (pc' := 48) rfl dX10_fits_47 ?_
        refine gj_icmp_ne C (pc' := 51) (tgt := 71) rfl dX10_fits_48 rfl h (fun h => ?_) (fun h => ?_)
        · refine gj_aload_n C (pc' := 52) (i := 0) rfl dX10_fits_51 rfl rfl ?_
          refine gj_getR C (pc' := 55) rfl dX10_fits_52 wf_X10_37 h (fun v11 h => ?_)
          refine gj_bipush C (pc' := 57) (v := 40) rfl dX10_fits_55 (by decide) ?_
          refine gj_iload_n C (pc' := 58) (i := 1) rfl dX10_fits_57 rfl rfl ?_
          refine gj_imul C (pc' := 59) rfl dX10_fits_58 ?_
          refine gj_iload_n C (pc' := 60) (i := 3) rfl dX10_fits_59 rfl rfl ?_
          refine gj_iadd C (pc' := 61) rfl dX10_fits_60 ?_
          refine gj_iald C (pc' := 62) rfl dX10_fits_61 h (fun v12 h => ?_)
          refine gj_iconst C (pc' := 63) (v := 0) rfl dX10_fits_62 (by decide) ?_
          refine gj_bipush C (pc' := 65) (v := 60) rfl dX10_fits_63 (by decide) ?_
          refine gj_callSi C (pc' := 68) rfl dX10_fits_65 wm_X10_47 uX10_in h (kX10_in _ _ _ _) (by omega) rfl rfl (Nat.le_of_ble_eq_true rfl) (fun v13 w14 h => ?_)
          refine gj_if_ne C (pc' := 71) (tgt := 78) rfl dX10_fits_68 rfl h (fun h => ?_) (fun h => ?_)
          · refine gj_drop (lv' := [some _, none, none, none, none, none]) (And.intro rfl True.intro) ?_
            exact kX10_fits_71 C h
          · refine gj_iconst C (pc' := 79) (v := 0) rfl dX10_fits_78 (by decide) ?_
            refine gj_istore C (pc' := 81) (i := 4) (lv' := [_, _, _, _, _, _]) rfl dX10_fits_79 (by decide) rfl rfl ?_
            refine gj_aload_n C (pc' := 82) (i := 0) rfl dX10_fits_81 rfl rfl ?_
            refine gj_aload_n C (pc' := 83) (i := 0) rfl dX10_fits_82 rfl rfl ?_
            refine gj_getR C (pc' := 86) rfl dX10_fits_83 wf_X10_7 h (fun v15 h => ?_)
            refine gj_aload_n C (pc' := 87) (i := 0) rfl dX10_fits_86 rfl rfl ?_
            refine gj_getR C (pc' := 90) rfl dX10_fits_87 wf_X10_16 h (fun v16 h => ?_)
            refine gj_callVv C (pc' := 93) rfl dX10_fits_90 wm_X10_162 uX10_moveAll h (kX10_moveAll _ _ _ _) (by omega) rfl rfl (Nat.le_of_ble_eq_true rfl) (fun w17 h => ?_)
            refine gj_iconst C (pc' := 94) (v := 0) rfl dX10_fits_93 (by decide) ?_
            refine gj_istore C (pc' := 96) (i := 5) (lv' := [_, _, _, _, _, _]) rfl dX10_fits_94 (by decide) rfl rfl ?_
            refine gj_drop (lv' := [some _, some _, some _, some _, some _, some _]) (And.intro rfl (And.intro rfl (And.intro rfl (And.intro rfl (And.intro rfl (And.intro rfl True.intro)))))) ?_
            exact kX10_fits_96 C h
        · refine gj_drop (lv' := [some _, none, none, none, none, none]) (And.intro rfl True.intro) ?_
          exact kX10_fits_71 C h
set_option maxHeartbeats 4000000 in
set_option maxRecDepth 100000 in
theorem kX10_owed : ∀ (x0 : Nat) (x1 : Int32) (w : ab_W) (r : Int32) (w1 : ab_W), sX10_owed x0 x1 w = some (r, w1) → gj_Mi yX10_owed cX10_owed 3 (some .int) 109 [.ref x0, .int x1] w r w1 ∧ ab_is w 10 x0 = true := by
  intro x0 x1 w r w1 h
  unfold sX10_owed at h
  obtain ⟨hi, h⟩ := ab_ite h
  refine ⟨?_, hi⟩
  refine gj_Mi_of RX10 [some (.ref x0), some (.int x1), none] (by decide +kernel) rfl (Nat.le_of_ble_eq_true rfl) rfl (fun p l e s m args below meth c D ad tc A C => ?_)
  refine gj_iload_n C (pc' := 1) (i := 1) rfl dX10_owed_0 rfl rfl ?_
  refine gj_iconst C (pc' := 2) (v := 0) rfl dX10_owed_1 (by decide) ?_
  refine gj_bipush C (pc' := 4) (v := 60) rfl dX10_owed_2 (by decide) ?_
  refine gj_callSi C (pc' := 7) rfl dX10_owed_4 wm_X10_47 uX10_in h (kX10_in _ _ _ _) (by omega) rfl rfl (Nat.le_of_ble_eq_true rfl) (fun v1 w2 h => ?_)
  refine gj_if_ne C (pc' := 10) (tgt := 17) rfl dX10_owed_7 rfl h (fun h => ?_) (fun h => ?_)
  · refine gj_aload_n C (pc' := 11) (i := 0) rfl dX10_owed_10 rfl rfl ?_
    refine gj_ldc C (pc' := 13) rfl dX10_owed_11 wk_X10_51 ?_
    refine gj_callVi C (pc' := 16) rfl dX10_owed_13 wm_X10_52 uX10_errs h (kX10_errs _ _ _) (by omega) rfl rfl (Nat.le_of_ble_eq_true rfl) (fun v3 w4 h => ?_)
    exact gj_iret C dX10_owed_16 h
  · refine gj_aload_n C (pc' := 18) (i := 0) rfl dX10_owed_17 rfl rfl ?_
    refine gj_aload_n C (pc' := 19) (i := 0) rfl dX10_owed_18 rfl rfl ?_
    refine gj_getR C (pc' := 22) rfl dX10_owed_19 wf_X10_7 h (fun v5 h => ?_)
    refine gj_aload_n C (pc' := 23) (i := 0) rfl dX10_owed_22 rfl rfl ?_
    refine gj_getR C (pc' := 26) rfl dX10_owed_23 wf_X10_16 h (fun v6 h => ?_)
    refine gj_callVv C (pc' := 29) rfl dX10_owed_26 wm_X10_162 uX10_moveAll h (kX10_moveAll _ _ _ _) (by omega) rfl rfl (Nat.le_of_ble_eq_true rfl) (fun w7 h => ?_)
    refine gj_aload_n C (pc' := 30) (i := 0) rfl dX10_owed_29 rfl rfl ?_
    refine gj_iload_n C (pc' := 31) (i := 1) rfl dX10_owed_30 rfl rfl ?_
    refine gj_callVv C (pc' := 34) rfl dX10_owed_31 wm_X10_193 uX10_passes h (kX10_passes _ _ _) (by omega) rfl rfl (Nat.le_of_ble_eq_true rfl) (fun w8 h => ?_)
    refine gj_aload_n C (pc' := 35) (i := 0) rfl dX10_owed_34 rfl rfl ?_
    refine gj_callVi C (pc' := 38) rfl dX10_owed_35 wm_X10_196 uX10_allDebt h (kX10_allDebt _ _) (by omega) rfl rfl (Nat.le_of_ble_eq_true rfl) (fun v9 w10 h => ?_)
    refine gj_istore_n C (pc' := 39) (i := 2) (lv' := [_, _, _]) rfl dX10_owed_38 rfl (by decide) rfl rfl ?_
    refine gj_aload_n C (pc' := 40) (i := 0) rfl dX10_owed_39 rfl rfl ?_
    refine gj_aload_n C (pc' := 41) (i := 0) rfl dX10_owed_40 rfl rfl ?_
    refine gj_getR C (pc' := 44) rfl dX10_owed_41 wf_X10_16 h (fun v11 h => ?_)
    refine gj_aload_n C (pc' := 45) (i := 0) rfl dX10_owed_44 rfl rfl ?_
    refine gj_getR C (pc' := 48) rfl dX10_owed_45 wf_X10_7 h (fun v12 h => ?_)
    refine gj_callVv C (pc' := 51) rfl dX10_owed_48 wm_X10_162 uX10_moveAll h (kX10_moveAll _ _ _ _) (by omega) rfl rfl (Nat.le_of_ble_eq_true rfl) (fun w13 h => ?_)
    refine gj_iload_n C (pc' := 52) (i := 2) rfl dX10_owed_51 rfl rfl ?_
    exact gj_iret C dX10_owed_52 h
set_option maxHeartbeats 4000000 in
set_option maxRecDepth 100000 in
theorem kX10_debtor_94 {p : Program} {l : Launch} {e : Env} {s : State} {m : MethodId} {args : Array Value} {below : List Frame} {meth : Method} {c : Code} {D : va_G} {ad : Nat → Nat} {tc : Nat → ClassId} {A : Nat → Prop} (C : gj_C p s m args meth c D ad tc A cX10_debtor 6 (some .int) RX10) {r : Int32} {w1 : ab_W} {k36 : Nat → Int32 → Int32 → Int32 → Int32 → ab_W → Option (Int32 × ab_W)} (hk36 : ∀ {x0 : Nat} {x1 : Int32} {x2 : Int32} {x3 : Int32} {x4 : Int32} {w : ab_W}, k36 x0 x1 x2 x3 x4 w = some (r, w1) → gj_G p l e (gj_R 109) s m args below meth c D ad tc A 6 (gj_Qi D ad tc A below args s r w1) 36 [some (.ref x0), some (.int x1), some (.int x2), some (.int x3), some (.int x4), none] [] w) {x0 : Nat} {x1 : Int32} {x2 : Int32} {x3 : Int32} {x4 : Int32} {w : ab_W} (h : sX10_debtor_94 k36 x0 x1 x2 x3 x4 w = some (r, w1)) : gj_G p l e (gj_R 109) s m args below meth c D ad tc A 6 (gj_Qi D ad tc A below args s r w1) 94 [some (.ref x0), some (.int x1), some (.int x2), some (.int x3), some (.int x4), none] [] w := by
  unfold sX10_debtor_94 at h
  refine gj_iinc C (pc' := 97) (i := 4) (v := _ + 1) (lv' := [_, _, _, _, _, _]) rfl dX10_debtor_94 rfl rfl (by decide) rfl rfl ?_
  refine gj_goto C (tgt := 36) dX10_debtor_97 rfl ?_
  refine gj_drop (lv' := [some _, some _, some _, some _, some _, none]) (And.intro rfl (And.intro rfl (And.intro rfl (And.intro rfl (And.intro rfl True.intro))))) ?_
  exact hk36 h
set_option maxHeartbeats 4000000 in
set_option maxRecDepth 100000 in
theorem kX10_debtor_88 {p : Program} {l : Launch} {e : Env} {s : State} {m : MethodId} {args : Array Value} {below : List Frame} {meth : Method} {c : Code} {D : va_G} {ad : Nat → Nat} {tc : Nat → ClassId} {A : Nat → Prop} (C : gj_C p s m args meth c D ad tc A cX10_debtor 6 (some .int) RX10) {r : Int32} {w1 : ab_W} {k36 : Nat → Int32 → Int32 → Int32 → Int32 → ab_W → Option (Int32 × ab_W)} (hk36 : ∀ {x0 : Nat} {x1 : Int32} {x2 : Int32} {x3 : Int32} {x4 : Int32} {w : ab_W}, k36 x0 x1 x2 x3 x4 w = some (r, w1) → gj_G p l e (gj_R 109) s m args below meth c D ad tc A 6 (gj_Qi D ad tc A below args s r w1) 36 [some (.ref x0), some (.int x1), some (.int x2), some (.int x3), some (.int x4), none] [] w) {x0 : Nat} {x1 : Int32} {x4 : Int32} {x5 : Int32} {w : ab_W} (h : sX10_debtor_88 k36 x0 x1 x4 x5 w = some (r, w1)) : gj_G p l e (gj_R 109) s m args below meth c D ad tc A 6 (gj_Qi D ad tc A below args s r w1) 88 [some (.ref x0), some (.int x1), none, none, some (.int x4), some (.int x5)] [] w := by
  unfold sX10_debtor_88 at h
  refine gj_iload C (pc' := 90) (i := 4) rfl dX10_debtor_88 rfl ?_
  refine gj_istore_n C (pc' := 91) (i := 2) (lv' := [_, _, _, _, _, _]) rfl dX10_debtor_90 rfl (by decide) rfl rfl ?_
  refine gj_iload C (pc' := 93) (i := 5) rfl dX10_debtor_91 rfl ?_
  refine gj_istore_n C (pc' := 94) (i := 3) (lv' := [_, _, _, _, _, _]) rfl dX10_debtor_93 rfl (by decide) rfl rfl ?_
  refine gj_drop (lv' := [some _, some _, some _, some _, some _, none]) (And.intro rfl (And.intro rfl (And.intro rfl (And.intro rfl (And.intro rfl True.intro))))) ?_
  exact kX10_debtor_94 C (fun h => hk36 h) h
set_option maxHeartbeats 4000000 in
set_option maxRecDepth 100000 in
theorem kX10_debtor_36 {p : Program} {l : Launch} {e : Env} {s : State} {m : MethodId} {args : Array Value} {below : List Frame} {meth : Method} {c : Code} {D : va_G} {ad : Nat → Nat} {tc : Nat → ClassId} {A : Nat → Prop} (C : gj_C p s m args meth c D ad tc A cX10_debtor 6 (some .int) RX10) {r : Int32} {w1 : ab_W} : ∀ {n : Nat} {x0 : Nat} {x1 : Int32} {x2 : Int32} {x3 : Int32} {x4 : Int32} {w : ab_W}, sX10_debtor_36 n x0 x1 x2 x3 x4 w = some (r, w1) → gj_G p l e (gj_R 109) s m args below meth c D ad tc A 6 (gj_Qi D ad tc A below args s r w1) 36 [some (.ref x0), some (.int x1), some (.int x2), some (.int x3), some (.int x4), none] [] w := by
  intro n
  induction n with
  | zero =>
    intros
    rename_i h
    cases h
  | succ n ih =>
    intro x0 x1 x2 x3 x4 w h
    rw [sX10_debtor_36] at h
    refine gj_iload C (pc' := 38) (i := 4) rfl dX10_debtor_36 rfl ?_
    refine gj_aload_n C (pc' := 39) (i := 0) rfl dX10_debtor_38 rfl rfl ?_
    refine gj_getR C (pc' := 42) rfl dX10_debtor_39 wf_X10_16 h (fun v1 h => ?_)
    refine gj_iconst C (pc' := 43) (v := 2) rfl dX10_debtor_42 (by decide) ?_
    refine gj_iald C (pc' := 44) rfl dX10_debtor_43 h (fun v2 h => ?_)
    refine gj_icmp_ge C (pc' := 47) (tgt := 100) rfl dX10_debtor_44 rfl h (fun h => ?_) (fun h => ?_)
    · refine gj_aload_n C (pc' := 48) (i := 0) rfl dX10_debtor_47 rfl rfl ?_
      refine gj_iload C (pc' := 50) (i := 4) rfl dX10_debtor_48 rfl ?_
      refine gj_iconst C (pc' := 51) (v := 4) rfl dX10_debtor_50 (by decide) ?_
      refine gj_iconst C (pc' := 52) (v := 1) rfl dX10_debtor_51 (by decide) ?_
      refine gj_callVv C (pc' := 55) rfl dX10_debtor_52 wm_X10_57 uX10_gets h (kX10_gets _ _ _ _ _) (by omega) rfl rfl (Nat.le_of_ble_eq_true rfl) (fun w3 h => ?_)
      refine gj_aload_n C (pc' := 56) (i := 0) rfl dX10_debtor_55 rfl rfl ?_
      refine gj_iload_n C (pc' := 57) (i := 1) rfl dX10_debtor_56 rfl rfl ?_
      refine gj_callVv C (pc' := 60) rfl dX10_debtor_57 wm_X10_193 uX10_passes h (kX10_passes _ _ _) (by omega) rfl rfl (Nat.le_of_ble_eq_true rfl) (fun w4 h => ?_)
      refine gj_aload_n C (pc' := 61) (i := 0) rfl dX10_debtor_60 rfl rfl ?_
      refine gj_callVi C (pc' := 64) rfl dX10_debtor_61 wm_X10_196 uX10_allDebt h (kX10_allDebt _ _) (by omega) rfl rfl (Nat.le_of_ble_eq_true rfl) (fun v5 w6 h => ?_)
      refine gj_istore C (pc' := 66) (i := 5) (lv' := [_, _, _, _, _, _]) rfl dX10_debtor_64 (by decide) rfl rfl ?_
      refine gj_aload_n C (pc' := 67) (i := 0) rfl dX10_debtor_66 rfl rfl ?_
      refine gj_aload_n C (pc' := 68) (i := 0) rfl dX10_debtor_67 rfl rfl ?_
      refine gj_getR C (pc' := 71) rfl dX10_debtor_68 wf_X10_16 h (fun v7 h => ?_)
      refine gj_aload_n C (pc' := 72) (i := 0) rfl dX10_debtor_71 rfl rfl ?_
      refine gj_getR C (pc' := 75) rfl dX10_debtor_72 wf_X10_7 h (fun v8 h => ?_)
      refine gj_callVv C (pc' := 78) rfl dX10_debtor_75 wm_X10_162 uX10_moveAll h (kX10_moveAll _ _ _ _) (by omega) rfl rfl (Nat.le_of_ble_eq_true rfl) (fun w9 h => ?_)
      refine gj_iload_n C (pc' := 79) (i := 2) rfl dX10_debtor_78 rfl rfl ?_
      refine gj_if_lt C (pc' := 82) (tgt := 88) rfl dX10_debtor_79 rfl h (fun h => ?_) (fun h => ?_)
      · refine gj_drop (lv' := [some _, some _, none, none, some _, some _]) (And.intro rfl (And.intro rfl (And.intro rfl (And.intro rfl True.intro)))) ?_
        exact kX10_debtor_88 C (fun h => ih h) h
      · refine gj_iload C (pc' := 84) (i := 5) rfl dX10_debtor_82 rfl ?_
        refine gj_iload_n C (pc' := 85) (i := 3) rfl dX10_debtor_84 rfl rfl ?_
        refine gj_icmp_ge C (pc' := 88) (tgt := 94) rfl dX10_debtor_85 rfl h (fun h => ?_) (fun h => ?_)
        · refine gj_drop (lv' := [some _, some _, none, none, some _, some _]) (And.intro rfl (And.intro rfl (And.intro rfl (And.intro rfl True.intro)))) ?_
          exact kX10_debtor_88 C (fun h => ih h) h
        · refine gj_drop (lv' := [some _, some _, some _, some _, some _, none]) (And.intro rfl (And.intro rfl (And.intro rfl (And.intro rfl (And.intro rfl True.intro))))) ?_
          exact kX10_debtor_94 C (fun h => ih h) h
    · refine gj_iload_n C (pc' := 101) (i := 2) rfl dX10_debtor_100 rfl rfl ?_
      refine gj_if_ge C (pc' := 104) (tgt := 113) rfl dX10_debtor_101 rfl h (fun h => ?_) (fun h => ?_)
      · refine gj_aload_n C (pc' := 105) (i := 0) rfl dX10_debtor_104 rfl rfl ?_
        refine gj_ldc C (pc' := 107) rfl dX10_debtor_105 wk_X10_182 ?_
        refine gj_callVi C (pc' := 110) rfl dX10_debtor_107 wm_X10_52 uX10_errs h (kX10_errs _ _ _) (by omega) rfl rfl (Nat.le_of_ble_eq_true rfl) (fun v10 w11 h => ?_)
        refine gj_goto C (tgt := 114) dX10_debtor_110 rfl ?_
        exact gj_iret C dX10_debtor_114 h
      · refine gj_iload_n C (pc' := 114) (i := 2) rfl dX10_debtor_113 rfl rfl ?_
        exact gj_iret C dX10_debtor_114 h
set_option maxHeartbeats 4000000 in
set_option maxRecDepth 100000 in
theorem kX10_debtor : ∀ (x0 : Nat) (x1 : Int32) (w : ab_W) (r : Int32) (w1 : ab_W), sX10_debtor x0 x1 w = some (r, w1) → gj_Mi yX10_debtor cX10_debtor 6 (some .int) 109 [.ref x0, .int x1] w r w1 ∧ ab_is w 10 x0 = true := by
  intro x0 x1 w r w1 h
  unfold sX10_debtor at h
  obtain ⟨hi, h⟩ := ab_ite h
  refine ⟨?_, hi⟩
  refine gj_Mi_of RX10 [some (.ref x0), some (.int x1), none, none, none, none] (by decide +kernel) rfl (Nat.le_of_ble_eq_true rfl) rfl (fun p l e s m args below meth c D ad tc A C => ?_)
  refine gj_iload_n C (pc' := 1) (i := 1) rfl dX10_debtor_0 rfl rfl ?_
  refine gj_iconst C (pc' := 2) (v := 0) rfl dX10_debtor_1 (by decide) ?_
  refine gj_bipush C (pc' := 4) (v := 30) rfl dX10_debtor_2 (by decide) ?_
  refine gj_callSi C (pc' := 7) rfl dX10_debtor_4 wm_X10_47 uX10_in h (kX10_in _ _ _ _) (by omega) rfl rfl (Nat.le_of_ble_eq_true rfl) (fun v1 w2 h => ?_)
  refine gj_if_ne C (pc' := 10) (tgt := 17) rfl dX10_debtor_7 rfl h (fun h => ?_) (fun h => ?_)
  · refine gj_aload_n C (pc' := 11) (i := 0) rfl dX10_debtor_10 rfl rfl ?_
    refine gj_ldc C (pc' := 13) rfl dX10_debtor_11 wk_X10_51 ?_
    refine gj_callVi C (pc' := 16) rfl dX10_debtor_13 wm_X10_52 uX10_errs h (kX10_errs _ _ _) (by omega) rfl rfl (Nat.le_of_ble_eq_true rfl) (fun v3 w4 h => ?_)
    exact gj_iret C dX10_debtor_16 h
  · refine gj_iconst C (pc' := 18) (v := (-1)) rfl dX10_debtor_17 (by decide) ?_
    refine gj_istore_n C (pc' := 19) (i := 2) (lv' := [_, _, _, _, _, _]) rfl dX10_debtor_18 rfl (by decide) rfl rfl ?_
    refine gj_iconst C (pc' := 20) (v := 0) rfl dX10_debtor_19 (by decide) ?_
    refine gj_istore_n C (pc' := 21) (i := 3) (lv' := [_, _, _, _, _, _]) rfl dX10_debtor_20 rfl (by decide) rfl rfl ?_
    refine gj_aload_n C (pc' := 22) (i := 0) rfl dX10_debtor_21 rfl rfl ?_
    refine gj_aload_n C (pc' := 23) (i := 0) rfl dX10_debtor_22 rfl rfl ?_
    refine gj_getR C (pc' := 26) rfl dX10_debtor_23 wf_X10_7 h (fun v5 h => ?_)
    refine gj_aload_n C (pc' := 27) (i := 0) rfl dX10_debtor_26 rfl rfl ?_
    refine gj_getR C (pc' := 30) rfl dX10_debtor_27 wf_X10_16 h (fun v6 h => ?_)
    refine gj_callVv C (pc' := 33) rfl dX10_debtor_30 wm_X10_162 uX10_moveAll h (kX10_moveAll _ _ _ _) (by omega) rfl rfl (Nat.le_of_ble_eq_true rfl) (fun w7 h => ?_)
    refine gj_iconst C (pc' := 34) (v := 0) rfl dX10_debtor_33 (by decide) ?_
    refine gj_istore C (pc' := 36) (i := 4) (lv' := [_, _, _, _, _, _]) rfl dX10_debtor_34 (by decide) rfl rfl ?_
    refine gj_drop (lv' := [some _, some _, some _, some _, some _, none]) (And.intro rfl (And.intro rfl (And.intro rfl (And.intro rfl (And.intro rfl True.intro))))) ?_
    exact kX10_debtor_36 C h
set_option maxHeartbeats 4000000 in
set_option maxRecDepth 100000 in
theorem kX10_divisor_4 {p : Program} {l : Launch} {e : Env} {s : State} {m : MethodId} {args : Array Value} {below : List Frame} {meth : Method} {c : Code} {D : va_G} {ad : Nat → Nat} {tc : Nat → ClassId} {A : Nat → Prop} (C : gj_C p s m args meth c D ad tc A cX10_divisor 5 (some .int) RX10) {r : Int32} {w1 : ab_W} : ∀ {n : Nat} {x2 : Int32} {x3 : Int32} {w : ab_W}, sX10_divisor_4 n x2 x3 w = some (r, w1) → gj_G p l e (gj_R 0) s m args below meth c D ad tc A 5 (gj_Qi D ad tc A below args s r w1) 4 [none, none, some (.int x2), some (.int x3), none] [] w := by
  intro n
  induction n with
  | zero =>
    intros
    rename_i h
    cases h
  | succ n ih =>
    intro x2 x3 w h
    rw [sX10_divisor_4] at h
    refine gj_iload_n C (pc' := 5) (i := 3) rfl dX10_divisor_4 rfl rfl ?_
    refine gj_if_eq C (pc' := 8) (tgt := 21) rfl dX10_divisor_5 rfl h (fun h => ?_) (fun h => ?_)
    · refine gj_iload_n C (pc' := 22) (i := 2) rfl dX10_divisor_21 rfl rfl ?_
      exact gj_iret C dX10_divisor_22 h
    · refine gj_iload_n C (pc' := 9) (i := 2) rfl dX10_divisor_8 rfl rfl ?_
      refine gj_iload_n C (pc' := 10) (i := 3) rfl dX10_divisor_9 rfl rfl ?_
      refine gj_irem C (pc' := 11) rfl dX10_divisor_10 h (fun v1 h => ?_)
      refine gj_istore C (pc' := 13) (i := 4) (lv' := [_, _, _, _, _]) rfl dX10_divisor_11 (by decide) rfl rfl ?_
      refine gj_iload_n C (pc' := 14) (i := 3) rfl dX10_divisor_13 rfl rfl ?_
      refine gj_istore_n C (pc' := 15) (i := 2) (lv' := [_, _, _, _, _]) rfl dX10_divisor_14 rfl (by decide) rfl rfl ?_
      refine gj_iload C (pc' := 17) (i := 4) rfl dX10_divisor_15 rfl ?_
      refine gj_istore_n C (pc' := 18) (i := 3) (lv' := [_, _, _, _, _]) rfl dX10_divisor_17 rfl (by decide) rfl rfl ?_
      refine gj_goto C (tgt := 4) dX10_divisor_18 rfl ?_
      refine gj_drop (lv' := [none, none, some _, some _, none]) (And.intro rfl (And.intro rfl True.intro)) ?_
      exact ih h
set_option maxHeartbeats 4000000 in
set_option maxRecDepth 100000 in
theorem kX10_divisor : ∀ (x0 : Int32) (x1 : Int32) (w : ab_W) (r : Int32) (w1 : ab_W), sX10_divisor x0 x1 w = some (r, w1) → gj_Mi yX10_divisor cX10_divisor 5 (some .int) 0 [.int x0, .int x1] w r w1 := by
  intro x0 x1 w r w1 h
  unfold sX10_divisor at h
  refine gj_Mi_of RX10 [some (.int x0), some (.int x1), none, none, none] (by decide +kernel) rfl (Nat.le_of_ble_eq_true rfl) rfl (fun p l e s m args below meth c D ad tc A C => ?_)
  refine gj_iload_n C (pc' := 1) (i := 0) rfl dX10_divisor_0 rfl rfl ?_
  refine gj_istore_n C (pc' := 2) (i := 2) (lv' := [_, _, _, _, _]) rfl dX10_divisor_1 rfl (by decide) rfl rfl ?_
  refine gj_iload_n C (pc' := 3) (i := 1) rfl dX10_divisor_2 rfl rfl ?_
  refine gj_istore_n C (pc' := 4) (i := 3) (lv' := [_, _, _, _, _]) rfl dX10_divisor_3 rfl (by decide) rfl rfl ?_
  refine gj_drop (lv' := [none, none, some _, some _, none]) (And.intro rfl (And.intro rfl True.intro)) ?_
  exact kX10_divisor_4 C h
set_option maxHeartbeats 4000000 in
set_option maxRecDepth 100000 in
theorem kX10_odds_17 {p : Program} {l : Launch} {e : Env} {s : State} {m : MethodId} {args : Array Value} {below : List Frame} {meth : Method} {c : Code} {D : va_G} {ad : Nat → Nat} {tc : Nat → ClassId} {A : Nat → Prop} (C : gj_C p s m args meth c D ad tc A cX10_odds 7 (some .int) RX10) {r : Int32} {w1 : ab_W} {x0 : Nat} {w : ab_W} (h : sX10_odds_17 x0 w = some (r, w1)) : gj_G p l e (gj_R 3) s m args below meth c D ad tc A 7 (gj_Qi D ad tc A below args s r w1) 17 [some (.ref x0), none, none, none, none, none, none] [] w := by
  unfold sX10_odds_17 at h
  refine gj_aload_n C (pc' := 18) (i := 0) rfl dX10_odds_17 rfl rfl ?_
  refine gj_ldc C (pc' := 20) rfl dX10_odds_18 wk_X10_51 ?_
  refine gj_callVi C (pc' := 23) rfl dX10_odds_20 wm_X10_52 uX10_errs h (kX10_errs _ _ _) (by omega) rfl rfl (Nat.le_of_ble_eq_true rfl) (fun v1 w2 h => ?_)
  exact gj_iret C dX10_odds_23 h
set_option maxHeartbeats 4000000 in
set_option maxRecDepth 100000 in
theorem kX10_odds_96 {p : Program} {l : Launch} {e : Env} {s : State} {m : MethodId} {args : Array Value} {below : List Frame} {meth : Method} {c : Code} {D : va_G} {ad : Nat → Nat} {tc : Nat → ClassId} {A : Nat → Prop} (C : gj_C p s m args meth c D ad tc A cX10_odds 7 (some .int) RX10) {r : Int32} {w1 : ab_W} {k32 : Nat → Int32 → Int32 → Int32 → Int32 → Int32 → ab_W → Option (Int32 × ab_W)} (hk32 : ∀ {x0 : Nat} {x1 : Int32} {x2 : Int32} {x3 : Int32} {x4 : Int32} {x5 : Int32} {w : ab_W}, k32 x0 x1 x2 x3 x4 x5 w = some (r, w1) → gj_G p l e (gj_R 3) s m args below meth c D ad tc A 7 (gj_Qi D ad tc A below args s r w1) 32 [some (.ref x0), some (.int x1), some (.int x2), some (.int x3), some (.int x4), some (.int x5), none] [] w) {x0 : Nat} {x1 : Int32} {x2 : Int32} {x4 : Int32} {x5 : Int32} {p0 : Int32} {p1 : Int32} {w : ab_W} (h : sX10_odds_96 k32 x0 x1 x2 x4 x5 p0 p1 w = some (r, w1)) : gj_G p l e (gj_R 3) s m args below meth c D ad tc A 7 (gj_Qi D ad tc A below args s r w1) 96 [some (.ref x0), some (.int x1), some (.int x2), none, some (.int x4), some (.int x5), none] [.int p1, .int p0] w := by
  unfold sX10_odds_96 at h
  refine gj_iadd C (pc' := 97) rfl dX10_odds_96 ?_
  refine gj_istore_n C (pc' := 98) (i := 3) (lv' := [_, _, _, _, _, _, _]) rfl dX10_odds_97 rfl (by decide) rfl rfl ?_
  refine gj_iinc C (pc' := 101) (i := 5) (v := _ + 1) (lv' := [_, _, _, _, _, _, _]) rfl dX10_odds_98 rfl rfl (by decide) rfl rfl ?_
  refine gj_goto C (tgt := 32) dX10_odds_101 rfl ?_
  refine gj_drop (lv' := [some _, some _, some _, some _, some _, some _, none]) (And.intro rfl (And.intro rfl (And.intro rfl (And.intro rfl (And.intro rfl (And.intro rfl True.intro)))))) ?_
  exact hk32 h
set_option maxHeartbeats 4000000 in
set_option maxRecDepth 100000 in
theorem kX10_odds_95 {p : Program} {l : Launch} {e : Env} {s : State} {m : MethodId} {args : Array Value} {below : List Frame} {meth : Method} {c : Code} {D : va_G} {ad : Nat → Nat} {tc : Nat → ClassId} {A : Nat → Prop} (C : gj_C p s m args meth c D ad tc A cX10_odds 7 (some .int) RX10) {r : Int32} {w1 : ab_W} {k32 : Nat → Int32 → Int32 → Int32 → Int32 → Int32 → ab_W → Option (Int32 × ab_W)} (hk32 : ∀ {x0 : Nat} {x1 : Int32} {x2 : Int32} {x3 : Int32} {x4 : Int32} {x5 : Int32} {w : ab_W}, k32 x0 x1 x2 x3 x4 x5 w = some (r, w1) → gj_G p l e (gj_R 3) s m args below meth c D ad tc A 7 (gj_Qi D ad tc A below args s r w1) 32 [some (.ref x0), some (.int x1), some (.int x2), some (.int x3), some (.int x4), some (.int x5), none] [] w) {x0 : Nat} {x1 : Int32} {x2 : Int32} {x4 : Int32} {x5 : Int32} {p0 : Int32} {w : ab_W} (h : sX10_odds_95 k32 x0 x1 x2 x4 x5 p0 w = some (r, w1)) : gj_G p l e (gj_R 3) s m args below meth c D ad tc A 7 (gj_Qi D ad tc A below args s r w1) 95 [some (.ref x0), some (.int x1), some (.int x2), none, some (.int x4), some (.int x5), none] [.int p0] w := by
  unfold sX10_odds_95 at h
  refine gj_iconst C (pc' := 96) (v := 0) rfl dX10_odds_95 (by decide) ?_
  refine gj_drop (lv' := [some _, some _, some _, none, some _, some _, none]) (And.intro rfl (And.intro rfl (And.intro rfl (And.intro rfl (And.intro rfl True.intro))))) ?_
  exact kX10_odds_96 C (fun h => hk32 h) h
set_option maxHeartbeats 4000000 in
set_option maxRecDepth 100000 in
theorem kX10_odds_72 {p : Program} {l : Launch} {e : Env} {s : State} {m : MethodId} {args : Array Value} {below : List Frame} {meth : Method} {c : Code} {D : va_G} {ad : Nat → Nat} {tc : Nat → ClassId} {A : Nat → Prop} (C : gj_C p s m args meth c D ad tc A cX10_odds 7 (some .int) RX10) {r : Int32} {w1 : ab_W} {k32 : Nat → Int32 → Int32 → Int32 → Int32 → Int32 → ab_W → Option (Int32 × ab_W)} (hk32 : ∀ {x0 : Nat} {x1 : Int32} {x2 : Int32} {x3 : Int32} {x4 : Int32} {x5 : Int32} {w : ab_W}, k32 x0 x1 x2 x3 x4 x5 w = some (r, w1) → gj_G p l e (gj_R 3) s m args below meth c D ad tc A 7 (gj_Qi D ad tc A below args s r w1) 32 [some (.ref x0), some (.int x1), some (.int x2), some (.int x3), some (.int x4), some (.int x5), none] [] w) {x0 : Nat} {x1 : Int32} {x2 : Int32} {x3 : Int32} {x5 : Int32} {x6 : Int32} {p0 : Int32} {p1 : Int32} {w : ab_W} (h : sX10_odds_72 k32 x0 x1 x2 x3 x5 x6 p0 p1 w = some (r, w1)) : gj_G p l e (gj_R 3) s m args below meth c D ad tc A 7 (gj_Qi D ad tc A below args s r w1) 72 [some (.ref x0), some (.int x1), some (.int x2), some (.int x3), none, some (.int x5), some (.int x6)] [.int p1, .int p0] w := by
  unfold sX10_odds_72 at h
  refine gj_iadd C (pc' := 73) rfl dX10_odds_72 ?_
  refine gj_istore C (pc' := 75) (i := 4) (lv' := [_, _, _, _, _, _, _]) rfl dX10_odds_73 (by decide) rfl rfl ?_
  refine gj_iload_n C (pc' := 76) (i := 3) rfl dX10_odds_75 rfl rfl ?_
  refine gj_iload C (pc' := 78) (i := 6) rfl dX10_odds_76 rfl ?_
  refine gj_if_eq C (pc' := 81) (tgt := 95) rfl dX10_odds_78 rfl h (fun h => ?_) (fun h => ?_)
  · refine gj_drop (lv' := [some _, some _, some _, none, some _, some _, none]) (And.intro rfl (And.intro rfl (And.intro rfl (And.intro rfl (And.intro rfl True.intro))))) ?_
    exact kX10_odds_95 C (fun h => hk32 h) h
  · refine gj_aload_n C (pc' := 82) (i := 0) rfl dX10_odds_81 rfl rfl ?_
    refine gj_iload_n C (pc' := 83) (i := 1) rfl dX10_odds_82 rfl rfl ?_
    refine gj_iload C (pc' := 85) (i := 5) rfl dX10_odds_83 rfl ?_
    refine gj_callVi C (pc' := 88) rfl dX10_odds_85 wm_X10_78 uX10_isAlive h (kX10_isAlive _ _ _ _) (by omega) rfl rfl (Nat.le_of_ble_eq_true rfl) (fun v1 w2 h => ?_)
    refine gj_if_eq C (pc' := 91) (tgt := 95) rfl dX10_odds_88 rfl h (fun h => ?_) (fun h => ?_)
    · refine gj_drop (lv' := [some _, some _, some _, none, some _, some _, none]) (And.intro rfl (And.intro rfl (And.intro rfl (And.intro rfl (And.intro rfl True.intro))))) ?_
      exact kX10_odds_95 C (fun h => hk32 h) h
    · refine gj_iconst C (pc' := 92) (v := 1) rfl dX10_odds_91 (by decide) ?_
      refine gj_goto C (tgt := 96) dX10_odds_92 rfl ?_
      refine gj_drop (lv' := [some _, some _, some _, none, some _, some _, none]) (And.intro rfl (And.intro rfl (And.intro rfl (And.intro rfl (And.intro rfl True.intro))))) ?_
      exact kX10_odds_96 C (fun h => hk32 h) h
set_option maxHeartbeats 4000000 in
set_option maxRecDepth 100000 in
theorem kX10_odds_58 {p : Program} {l : Launch} {e : Env} {s : State} {m : MethodId} {args : Array Value} {below : List Frame} {meth : Method} {c : Code} {D : va_G} {ad : Nat → Nat} {tc : Nat → ClassId} {A : Nat → Prop} (C : gj_C p s m args meth c D ad tc A cX10_odds 7 (some .int) RX10) {r : Int32} {w1 : ab_W} {k32 : Nat → Int32 → Int32 → Int32 → Int32 → Int32 → ab_W → Option (Int32 × ab_W)} (hk32 : ∀ {x0 : Nat} {x1 : Int32} {x2 : Int32} {x3 : Int32} {x4 : Int32} {x5 : Int32} {w : ab_W}, k32 x0 x1 x2 x3 x4 x5 w = some (r, w1) → gj_G p l e (gj_R 3) s m args below meth c D ad tc A 7 (gj_Qi D ad tc A below args s r w1) 32 [some (.ref x0), some (.int x1), some (.int x2), some (.int x3), some (.int x4), some (.int x5), none] [] w) {x0 : Nat} {x1 : Int32} {x2 : Int32} {x3 : Int32} {x4 : Int32} {x5 : Int32} {p0 : Int32} {w : ab_W} (h : sX10_odds_58 k32 x0 x1 x2 x3 x4 x5 p0 w = some (r, w1)) : gj_G p l e (gj_R 3) s m args below meth c D ad tc A 7 (gj_Qi D ad tc A below args s r w1) 58 [some (.ref x0), some (.int x1), some (.int x2), some (.int x3), some (.int x4), some (.int x5), none] [.int p0] w := by
  unfold sX10_odds_58 at h
  refine gj_istore C (pc' := 60) (i := 6) (lv' := [_, _, _, _, _, _, _]) rfl dX10_odds_58 (by decide) rfl rfl ?_
  refine gj_iload C (pc' := 62) (i := 4) rfl dX10_odds_60 rfl ?_
  refine gj_iload C (pc' := 64) (i := 6) rfl dX10_odds_62 rfl ?_
  refine gj_if_eq C (pc' := 67) (tgt := 71) rfl dX10_odds_64 rfl h (fun h => ?_) (fun h => ?_)
  · refine gj_iconst C (pc' := 72) (v := 0) rfl dX10_odds_71 (by decide) ?_
    refine gj_drop (lv' := [some _, some _, some _, some _, none, some _, some _]) (And.intro rfl (And.intro rfl (And.intro rfl (And.intro rfl (And.intro rfl (And.intro rfl True.intro)))))) ?_
    exact kX10_odds_72 C (fun h => hk32 h) h
  · refine gj_iconst C (pc' := 68) (v := 1) rfl dX10_odds_67 (by decide) ?_
    refine gj_goto C (tgt := 72) dX10_odds_68 rfl ?_
    refine gj_drop (lv' := [some _, some _, some _, some _, none, some _, some _]) (And.intro rfl (And.intro rfl (And.intro rfl (And.intro rfl (And.intro rfl (And.intro rfl True.intro)))))) ?_
    exact kX10_odds_72 C (fun h => hk32 h) h
set_option maxHeartbeats 4000000 in
set_option maxRecDepth 100000 in
theorem kX10_odds_32 {p : Program} {l : Launch} {e : Env} {s : State} {m : MethodId} {args : Array Value} {below : List Frame} {meth : Method} {c : Code} {D : va_G} {ad : Nat → Nat} {tc : Nat → ClassId} {A : Nat → Prop} (C : gj_C p s m args meth c D ad tc A cX10_odds 7 (some .int) RX10) {r : Int32} {w1 : ab_W} : ∀ {n : Nat} {x0 : Nat} {x1 : Int32} {x2 : Int32} {x3 : Int32} {x4 : Int32} {x5 : Int32} {w : ab_W}, sX10_odds_32 n x0 x1 x2 x3 x4 x5 w = some (r, w1) → gj_G p l e (gj_R 3) s m args below meth c D ad tc A 7 (gj_Qi D ad tc A below args s r w1) 32 [some (.ref x0), some (.int x1), some (.int x2), some (.int x3), some (.int x4), some (.int x5), none] [] w := by
  intro n
  induction n with
  | zero =>
    intros
    rename_i h
    cases h
  | succ n ih =>
    intro x0 x1 x2 x3 x4 x5 w h
    rw [sX10_odds_32] at h
    refine gj_iload C (pc' := 34) (i := 5) rfl dX10_odds_32 rfl ?_
    refine gj_bipush C (pc' := 36) (v := 127) rfl dX10_odds_34 (by decide) ?_
    refine gj_icmp_gt C (pc' := 39) (tgt := 104) rfl dX10_odds_36 rfl h (fun h => ?_) (fun h => ?_)
    · refine gj_iload_n C (pc' := 105) (i := 3) rfl dX10_odds_104 rfl rfl ?_
      refine gj_iload C (pc' := 107) (i := 4) rfl dX10_odds_105 rfl ?_
      refine gj_callSi C (pc' := 110) rfl dX10_odds_107 wm_X10_213 uX10_divisor h (kX10_divisor _ _ _) (by omega) rfl rfl (Nat.le_of_ble_eq_true rfl) (fun v1 w2 h => ?_)
      refine gj_istore C (pc' := 112) (i := 5) (lv' := [_, _, _, _, _, _, _]) rfl dX10_odds_110 (by decide) rfl rfl ?_
      refine gj_iload_n C (pc' := 113) (i := 2) rfl dX10_odds_112 rfl rfl ?_
      refine gj_if_ne C (pc' := 116) (tgt := 123) rfl dX10_odds_113 rfl h (fun h => ?_) (fun h => ?_)
      · refine gj_iload_n C (pc' := 117) (i := 3) rfl dX10_odds_116 rfl rfl ?_
        refine gj_iload C (pc' := 119) (i := 5) rfl dX10_odds_117 rfl ?_
        refine gj_idiv C (pc' := 120) rfl dX10_odds_119 h (fun v3 h => ?_)
        refine gj_goto C (tgt := 128) dX10_odds_120 rfl ?_
        exact gj_iret C dX10_odds_128 h
      · refine gj_iload C (pc' := 125) (i := 4) rfl dX10_odds_123 rfl ?_
        refine gj_iload C (pc' := 127) (i := 5) rfl dX10_odds_125 rfl ?_
        refine gj_idiv C (pc' := 128) rfl dX10_odds_127 h (fun v4 h => ?_)
        exact gj_iret C dX10_odds_128 h
    · refine gj_aload_n C (pc' := 40) (i := 0) rfl dX10_odds_39 rfl rfl ?_
      refine gj_iload C (pc' := 42) (i := 5) rfl dX10_odds_40 rfl ?_
      refine gj_callVi C (pc' := 45) rfl dX10_odds_42 wm_X10_72 uX10_thick h (kX10_thick _ _ _) (by omega) rfl rfl (Nat.le_of_ble_eq_true rfl) (fun v5 w6 h => ?_)
      refine gj_aload_n C (pc' := 46) (i := 0) rfl dX10_odds_45 rfl rfl ?_
      refine gj_iload_n C (pc' := 47) (i := 1) rfl dX10_odds_46 rfl rfl ?_
      refine gj_callVi C (pc' := 50) rfl dX10_odds_47 wm_X10_75 uX10_stiff h (kX10_stiff _ _ _) (by omega) rfl rfl (Nat.le_of_ble_eq_true rfl) (fun v7 w8 h => ?_)
      refine gj_icmp_gt C (pc' := 53) (tgt := 57) rfl dX10_odds_50 rfl h (fun h => ?_) (fun h => ?_)
      · refine gj_iconst C (pc' := 58) (v := 0) rfl dX10_odds_57 (by decide) ?_
        refine gj_drop (lv' := [some _, some _, some _, some _, some _, some _, none]) (And.intro rfl (And.intro rfl (And.intro rfl (And.intro rfl (And.intro rfl (And.intro rfl True.intro)))))) ?_
        exact kX10_odds_58 C (fun h => ih h) h
      · refine gj_iconst C (pc' := 54) (v := 1) rfl dX10_odds_53 (by decide) ?_
        refine gj_goto C (tgt := 58) dX10_odds_54 rfl ?_
        refine gj_drop (lv' := [some _, some _, some _, some _, some _, some _, none]) (And.intro rfl (And.intro rfl (And.intro rfl (And.intro rfl (And.intro rfl (And.intro rfl True.intro)))))) ?_
        exact kX10_odds_58 C (fun h => ih h) h
set_option maxHeartbeats 4000000 in
set_option maxRecDepth 100000 in
theorem kX10_odds : ∀ (x0 : Nat) (x1 : Int32) (x2 : Int32) (w : ab_W) (r : Int32) (w1 : ab_W), sX10_odds x0 x1 x2 w = some (r, w1) → gj_Mi yX10_odds cX10_odds 7 (some .int) 3 [.ref x0, .int x1, .int x2] w r w1 ∧ ab_is w 10 x0 = true := by
  intro x0 x1 x2 w r w1 h
  unfold sX10_odds at h
  obtain ⟨hi, h⟩ := ab_ite h
  refine ⟨?_, hi⟩
  refine gj_Mi_of RX10 [some (.ref x0), some (.int x1), some (.int x2), none, none, none, none] (by decide +kernel) rfl (Nat.le_of_ble_eq_true rfl) rfl (fun p l e s m args below meth c D ad tc A C => ?_)
  refine gj_aload_n C (pc' := 1) (i := 0) rfl dX10_odds_0 rfl rfl ?_
  refine gj_iload_n C (pc' := 2) (i := 1) rfl dX10_odds_1 rfl rfl ?_
  refine gj_callVi C (pc' := 5) rfl dX10_odds_2 wm_X10_61 uX10_isPaper h (kX10_isPaper _ _ _) (by omega) rfl rfl (Nat.le_of_ble_eq_true rfl) (fun v1 w2 h => ?_)
  refine gj_if_eq C (pc' := 8) (tgt := 17) rfl dX10_odds_5 rfl h (fun h => ?_) (fun h => ?_)
  · refine gj_drop (lv' := [some _, none, none, none, none, none, none]) (And.intro rfl True.intro) ?_
    exact kX10_odds_17 C h
  · refine gj_iload_n C (pc' := 9) (i := 2) rfl dX10_odds_8 rfl rfl ?_
    refine gj_iconst C (pc' := 10) (v := 0) rfl dX10_odds_9 (by decide) ?_
    refine gj_iconst C (pc' := 11) (v := 1) rfl dX10_odds_10 (by decide) ?_
    refine gj_callSi C (pc' := 14) rfl dX10_odds_11 wm_X10_47 uX10_in h (kX10_in _ _ _ _) (by omega) rfl rfl (Nat.le_of_ble_eq_true rfl) (fun v3 w4 h => ?_)
    refine gj_if_ne C (pc' := 17) (tgt := 24) rfl dX10_odds_14 rfl h (fun h => ?_) (fun h => ?_)
    · refine gj_drop (lv' := [some _, none, none, none, none, none, none]) (And.intro rfl True.intro) ?_
      exact kX10_odds_17 C h
    · refine gj_iconst C (pc' := 25) (v := 0) rfl dX10_odds_24 (by decide) ?_
      refine gj_istore_n C (pc' := 26) (i := 3) (lv' := [_, _, _, _, _, _, _]) rfl dX10_odds_25 rfl (by decide) rfl rfl ?_
      refine gj_iconst C (pc' := 27) (v := 0) rfl dX10_odds_26 (by decide) ?_
      refine gj_istore C (pc' := 29) (i := 4) (lv' := [_, _, _, _, _, _, _]) rfl dX10_odds_27 (by decide) rfl rfl ?_
      refine gj_iconst C (pc' := 30) (v := 0) rfl dX10_odds_29 (by decide) ?_
      refine gj_istore C (pc' := 32) (i := 5) (lv' := [_, _, _, _, _, _, _]) rfl dX10_odds_30 (by decide) rfl rfl ?_
      refine gj_drop (lv' := [some _, some _, some _, some _, some _, some _, none]) (And.intro rfl (And.intro rfl (And.intro rfl (And.intro rfl (And.intro rfl (And.intro rfl True.intro)))))) ?_
      exact kX10_odds_32 C h
set_option maxHeartbeats 4000000 in
set_option maxRecDepth 100000 in
theorem kX10_seed : ∀ (x0 : Nat) (x1 : Int32) (w : ab_W) (r : Int32) (w1 : ab_W), sX10_seed x0 x1 w = some (r, w1) → gj_Mi yX10_seed cX10_seed 3 (some .int) 0 [.ref x0, .int x1] w r w1 ∧ ab_is w 10 x0 = true := by
  intro x0 x1 w r w1 h
  unfold sX10_seed at h
  obtain ⟨hi, h⟩ := ab_ite h
  refine ⟨?_, hi⟩
  refine gj_Mi_of RX10 [some (.ref x0), some (.int x1), none] (by decide +kernel) rfl (Nat.le_of_ble_eq_true rfl) rfl (fun p l e s m args below meth c D ad tc A C => ?_)
  refine gj_aload_n C (pc' := 1) (i := 0) rfl dX10_seed_0 rfl rfl ?_
  refine gj_getR C (pc' := 4) rfl dX10_seed_1 wf_X10_7 h (fun v1 h => ?_)
  refine gj_iconst C (pc' := 5) (v := 1) rfl dX10_seed_4 (by decide) ?_
  refine gj_iald C (pc' := 6) rfl dX10_seed_5 h (fun v2 h => ?_)
  refine gj_istore_n C (pc' := 7) (i := 2) (lv' := [_, _, _]) rfl dX10_seed_6 rfl (by decide) rfl rfl ?_
  refine gj_aload_n C (pc' := 8) (i := 0) rfl dX10_seed_7 rfl rfl ?_
  refine gj_getR C (pc' := 11) rfl dX10_seed_8 wf_X10_7 h (fun v3 h => ?_)
  refine gj_iconst C (pc' := 12) (v := 1) rfl dX10_seed_11 (by decide) ?_
  refine gj_iload_n C (pc' := 13) (i := 1) rfl dX10_seed_12 rfl rfl ?_
  refine gj_iast C (pc' := 14) rfl dX10_seed_13 h (fun w4 h => ?_)
  refine gj_iload_n C (pc' := 15) (i := 2) rfl dX10_seed_14 rfl rfl ?_
  exact gj_iret C dX10_seed_15 h
set_option maxHeartbeats 4000000 in
set_option maxRecDepth 100000 in
theorem kX10_ran : ∀ (x0 : Nat) (x1 : Int32) (w : ab_W) (w1 : ab_W), sX10_ran x0 x1 w = some w1 → gj_Mv yX10_ran cX10_ran 2 none 0 [.ref x0, .int x1] w w1 ∧ ab_is w 10 x0 = true := by
  intro x0 x1 w w1 h
  unfold sX10_ran at h
  obtain ⟨hi, h⟩ := ab_ite h
  refine ⟨?_, hi⟩
  refine gj_Mv_of RX10 [some (.ref x0), some (.int x1)] (by decide +kernel) rfl (Nat.le_of_ble_eq_true rfl) rfl (fun p l e s m args below meth c D ad tc A C => ?_)
  refine gj_aload_n C (pc' := 1) (i := 0) rfl dX10_ran_0 rfl rfl ?_
  refine gj_getI C (pc' := 4) rfl dX10_ran_1 wf_X10_216 h (fun v1 h => ?_)
  refine gj_bipush C (pc' := 6) (v := 40) rfl dX10_ran_4 (by decide) ?_
  refine gj_icmp_ge C (pc' := 9) (tgt := 29) rfl dX10_ran_6 rfl h (fun h => ?_) (fun h => ?_)
  · refine gj_aload_n C (pc' := 10) (i := 0) rfl dX10_ran_9 rfl rfl ?_
    refine gj_getR C (pc' := 13) rfl dX10_ran_10 wf_X10_43 h (fun v2 h => ?_)
    refine gj_aload_n C (pc' := 14) (i := 0) rfl dX10_ran_13 rfl rfl ?_
    refine gj_getI C (pc' := 17) rfl dX10_ran_14 wf_X10_216 h (fun v3 h => ?_)
    refine gj_iload_n C (pc' := 18) (i := 1) rfl dX10_ran_17 rfl rfl ?_
    refine gj_iast C (pc' := 19) rfl dX10_ran_18 h (fun w4 h => ?_)
    refine gj_aload_n C (pc' := 20) (i := 0) rfl dX10_ran_19 rfl rfl ?_
    refine gj_dup C (pc' := 21) rfl dX10_ran_20 rfl ?_
    refine gj_getI C (pc' := 24) rfl dX10_ran_21 wf_X10_216 h (fun v5 h => ?_)
    refine gj_iconst C (pc' := 25) (v := 1) rfl dX10_ran_24 (by decide) ?_
    refine gj_iadd C (pc' := 26) rfl dX10_ran_25 ?_
    refine gj_putI C (pc' := 29) (ty := .int) rfl dX10_ran_26 wf_X10_216 wp_X10_22 rfl h (fun w6 h => ?_)
    exact gj_vret C dX10_ran_29 h
  · exact gj_vret C dX10_ran_29 h
set_option maxHeartbeats 4000000 in
set_option maxRecDepth 100000 in
theorem kbX10_creasesIn {n0 : Nat} {f_X10_creasesIn : Nat → Int32 → Int32 → ab_W → Option (Int32 × ab_W)} (hf_X10_creasesIn : ∀ (x0 : Nat) (x1 : Int32) (x2 : Int32) (w : ab_W) (r : Int32) (w1 : ab_W), f_X10_creasesIn x0 x1 x2 w = some (r, w1) → gj_Mi yX10_creasesIn cX10_creasesIn 3 (some .int) (1 + n0) [.ref x0, .int x1, .int x2] w r w1 ∧ ab_is w 10 x0 = true) : ∀ (x0 : Nat) (x1 : Int32) (x2 : Int32) (w : ab_W) (r : Int32) (w1 : ab_W), bX10_creasesIn f_X10_creasesIn x0 x1 x2 w = some (r, w1) → gj_Mi yX10_creasesIn cX10_creasesIn 3 (some .int) (1 + n0 + 1) [.ref x0, .int x1, .int x2] w r w1 ∧ ab_is w 10 x0 = true := by
  intro x0 x1 x2 w r w1 h
  unfold bX10_creasesIn at h
  obtain ⟨hi, h⟩ := ab_ite h
  refine ⟨?_, hi⟩
  refine gj_Mi_of RX10 [some (.ref x0), some (.int x1), some (.int x2)] (by decide +kernel) rfl (Nat.le_of_ble_eq_true rfl) rfl (fun p l e s m args below meth c D ad tc A C => ?_)
  refine gj_iload_n C (pc' := 1) (i := 1) rfl dX10_creasesIn_0 rfl rfl ?_
  refine gj_if_ne C (pc' := 4) (tgt := 17) rfl dX10_creasesIn_1 rfl h (fun h => ?_) (fun h => ?_)
  · refine gj_aload_n C (pc' := 5) (i := 0) rfl dX10_creasesIn_4 rfl rfl ?_
    refine gj_bipush C (pc' := 7) (v := 10) rfl dX10_creasesIn_5 (by decide) ?_
    refine gj_callVv C (pc' := 10) rfl dX10_creasesIn_7 wm_X10_219 uX10_ran h (kX10_ran _ _ _) (by omega) rfl rfl (Nat.le_of_ble_eq_true rfl) (fun w1 h => ?_)
    refine gj_iload_n C (pc' := 11) (i := 2) rfl dX10_creasesIn_10 rfl rfl ?_
    refine gj_aload_n C (pc' := 12) (i := 0) rfl dX10_creasesIn_11 rfl rfl ?_
    refine gj_getI C (pc' := 15) rfl dX10_creasesIn_12 wf_X10_222 h (fun v2 h => ?_)
    refine gj_iadd C (pc' := 16) rfl dX10_creasesIn_15 ?_
    exact gj_iret C dX10_creasesIn_16 h
  · refine gj_iload_n C (pc' := 18) (i := 1) rfl dX10_creasesIn_17 rfl rfl ?_
    refine gj_iconst C (pc' := 19) (v := 1) rfl dX10_creasesIn_18 (by decide) ?_
    refine gj_icmp_ne C (pc' := 22) (tgt := 37) rfl dX10_creasesIn_19 rfl h (fun h => ?_) (fun h => ?_)
    · refine gj_aload_n C (pc' := 23) (i := 0) rfl dX10_creasesIn_22 rfl rfl ?_
      refine gj_bipush C (pc' := 25) (v := 20) rfl dX10_creasesIn_23 (by decide) ?_
      refine gj_callVv C (pc' := 28) rfl dX10_creasesIn_25 wm_X10_219 uX10_ran h (kX10_ran _ _ _) (by omega) rfl rfl (Nat.le_of_ble_eq_true rfl) (fun w3 h => ?_)
      refine gj_aload_n C (pc' := 29) (i := 0) rfl dX10_creasesIn_28 rfl rfl ?_
      refine gj_iconst C (pc' := 30) (v := 0) rfl dX10_creasesIn_29 (by decide) ?_
      refine gj_iload_n C (pc' := 31) (i := 2) rfl dX10_creasesIn_30 rfl rfl ?_
      refine gj_callVi C (pc' := 34) rfl dX10_creasesIn_31 wm_X10_225 uX10_creasesIn h (hf_X10_creasesIn _ _ _ _) (by omega) rfl rfl (Nat.le_of_ble_eq_true rfl) (fun v4 w5 h => ?_)
      refine gj_iconst C (pc' := 35) (v := 3) rfl dX10_creasesIn_34 (by decide) ?_
      refine gj_imul C (pc' := 36) rfl dX10_creasesIn_35 ?_
      exact gj_iret C dX10_creasesIn_36 h
    · refine gj_aload_n C (pc' := 38) (i := 0) rfl dX10_creasesIn_37 rfl rfl ?_
      refine gj_iload_n C (pc' := 39) (i := 1) rfl dX10_creasesIn_38 rfl rfl ?_
      refine gj_callSi C (pc' := 42) rfl dX10_creasesIn_39 wm_X10_85 uX10_above h (kX10_above _ _) (by omega) rfl rfl (Nat.le_of_ble_eq_true rfl) (fun v6 w7 h => ?_)
      refine gj_iload_n C (pc' := 43) (i := 2) rfl dX10_creasesIn_42 rfl rfl ?_
      refine gj_callVi C (pc' := 46) rfl dX10_creasesIn_43 wm_X10_225 uX10_creasesIn h (hf_X10_creasesIn _ _ _ _) (by omega) rfl rfl (Nat.le_of_ble_eq_true rfl) (fun v8 w9 h => ?_)
      exact gj_iret C dX10_creasesIn_46 h
set_option maxHeartbeats 4000000 in
set_option maxRecDepth 100000 in
theorem kgX10_creasesIn : ∀ n : Nat, (∀ (x0 : Nat) (x1 : Int32) (x2 : Int32) (w : ab_W) (r : Int32) (w1 : ab_W), sX10_creasesIn n x0 x1 x2 w = some (r, w1) → gj_Mi yX10_creasesIn cX10_creasesIn 3 (some .int) (1 + n) [.ref x0, .int x1, .int x2] w r w1 ∧ ab_is w 10 x0 = true) := by
  intro n
  induction n with
  | zero => exact by intros; rename_i h; cases h
  | succ n ih =>
    exact kbX10_creasesIn ih
set_option maxHeartbeats 4000000 in
set_option maxRecDepth 100000 in
theorem kX10_creasesIn (n : Nat) : ∀ (x0 : Nat) (x1 : Int32) (x2 : Int32) (w : ab_W) (r : Int32) (w1 : ab_W), sX10_creasesIn n x0 x1 x2 w = some (r, w1) → gj_Mi yX10_creasesIn cX10_creasesIn 3 (some .int) (1 + n) [.ref x0, .int x1, .int x2] w r w1 ∧ ab_is w 10 x0 = true := (kgX10_creasesIn n)
set_option maxHeartbeats 4000000 in
set_option maxRecDepth 100000 in
theorem kbX10_restsIn {n0 : Nat} {f_X10_restsIn : Nat → Int32 → Int32 → ab_W → Option (Int32 × ab_W)} (hf_X10_restsIn : ∀ (x0 : Nat) (x1 : Int32) (x2 : Int32) (w : ab_W) (r : Int32) (w1 : ab_W), f_X10_restsIn x0 x1 x2 w = some (r, w1) → gj_Mi yX10_restsIn cX10_restsIn 3 (some .int) (1 + n0) [.ref x0, .int x1, .int x2] w r w1 ∧ ab_is w 10 x0 = true) : ∀ (x0 : Nat) (x1 : Int32) (x2 : Int32) (w : ab_W) (r : Int32) (w1 : ab_W), bX10_restsIn f_X10_restsIn x0 x1 x2 w = some (r, w1) → gj_Mi yX10_restsIn cX10_restsIn 3 (some .int) (1 + n0 + 1) [.ref x0, .int x1, .int x2] w r w1 ∧ ab_is w 10 x0 = true := by
  intro x0 x1 x2 w r w1 h
  unfold bX10_restsIn at h
  obtain ⟨hi, h⟩ := ab_ite h
  refine ⟨?_, hi⟩
  refine gj_Mi_of RX10 [some (.ref x0), some (.int x1), some (.int x2)] (by decide +kernel) rfl (Nat.le_of_ble_eq_true rfl) rfl (fun p l e s m args below meth c D ad tc A C => ?_)
  refine gj_iload_n C (pc' := 1) (i := 1) rfl dX10_restsIn_0 rfl rfl ?_
  refine gj_if_ne C (pc' := 4) (tgt := 17) rfl dX10_restsIn_1 rfl h (fun h => ?_) (fun h => ?_)
  · refine gj_aload_n C (pc' := 5) (i := 0) rfl dX10_restsIn_4 rfl rfl ?_
    refine gj_bipush C (pc' := 7) (v := 12) rfl dX10_restsIn_5 (by decide) ?_
    refine gj_callVv C (pc' := 10) rfl dX10_restsIn_7 wm_X10_219 uX10_ran h (kX10_ran _ _ _) (by omega) rfl rfl (Nat.le_of_ble_eq_true rfl) (fun w1 h => ?_)
    refine gj_iload_n C (pc' := 11) (i := 2) rfl dX10_restsIn_10 rfl rfl ?_
    refine gj_aload_n C (pc' := 12) (i := 0) rfl dX10_restsIn_11 rfl rfl ?_
    refine gj_getI C (pc' := 15) rfl dX10_restsIn_12 wf_X10_228 h (fun v2 h => ?_)
    refine gj_isub C (pc' := 16) rfl dX10_restsIn_15 ?_
    exact gj_iret C dX10_restsIn_16 h
  · refine gj_iload_n C (pc' := 18) (i := 1) rfl dX10_restsIn_17 rfl rfl ?_
    refine gj_iconst C (pc' := 19) (v := 3) rfl dX10_restsIn_18 (by decide) ?_
    refine gj_icmp_ne C (pc' := 22) (tgt := 36) rfl dX10_restsIn_19 rfl h (fun h => ?_) (fun h => ?_)
    · refine gj_aload_n C (pc' := 23) (i := 0) rfl dX10_restsIn_22 rfl rfl ?_
      refine gj_bipush C (pc' := 25) (v := 40) rfl dX10_restsIn_23 (by decide) ?_
      refine gj_callVv C (pc' := 28) rfl dX10_restsIn_25 wm_X10_219 uX10_ran h (kX10_ran _ _ _) (by omega) rfl rfl (Nat.le_of_ble_eq_true rfl) (fun w3 h => ?_)
      refine gj_aload_n C (pc' := 29) (i := 0) rfl dX10_restsIn_28 rfl rfl ?_
      refine gj_iconst C (pc' := 30) (v := 0) rfl dX10_restsIn_29 (by decide) ?_
      refine gj_iload_n C (pc' := 31) (i := 2) rfl dX10_restsIn_30 rfl rfl ?_
      refine gj_callVi C (pc' := 34) rfl dX10_restsIn_31 wm_X10_231 uX10_restsIn h (hf_X10_restsIn _ _ _ _) (by omega) rfl rfl (Nat.le_of_ble_eq_true rfl) (fun v4 w5 h => ?_)
      refine gj_ineg C (pc' := 35) rfl dX10_restsIn_34 ?_
      exact gj_iret C dX10_restsIn_35 h
    · refine gj_iload_n C (pc' := 37) (i := 1) rfl dX10_restsIn_36 rfl rfl ?_
      refine gj_bipush C (pc' := 39) (v := 6) rfl dX10_restsIn_37 (by decide) ?_
      refine gj_icmp_ne C (pc' := 42) (tgt := 60) rfl dX10_restsIn_39 rfl h (fun h => ?_) (fun h => ?_)
      · refine gj_aload_n C (pc' := 43) (i := 0) rfl dX10_restsIn_42 rfl rfl ?_
        refine gj_bipush C (pc' := 45) (v := 70) rfl dX10_restsIn_43 (by decide) ?_
        refine gj_callVv C (pc' := 48) rfl dX10_restsIn_45 wm_X10_219 uX10_ran h (kX10_ran _ _ _) (by omega) rfl rfl (Nat.le_of_ble_eq_true rfl) (fun w6 h => ?_)
        refine gj_aload_n C (pc' := 49) (i := 0) rfl dX10_restsIn_48 rfl rfl ?_
        refine gj_iconst C (pc' := 50) (v := 3) rfl dX10_restsIn_49 (by decide) ?_
        refine gj_iload_n C (pc' := 51) (i := 2) rfl dX10_restsIn_50 rfl rfl ?_
        refine gj_callVi C (pc' := 54) rfl dX10_restsIn_51 wm_X10_231 uX10_restsIn h (hf_X10_restsIn _ _ _ _) (by omega) rfl rfl (Nat.le_of_ble_eq_true rfl) (fun v7 w8 h => ?_)
        refine gj_aload_n C (pc' := 55) (i := 0) rfl dX10_restsIn_54 rfl rfl ?_
        refine gj_getI C (pc' := 58) rfl dX10_restsIn_55 wf_X10_222 h (fun v9 h => ?_)
        refine gj_ixor C (pc' := 59) rfl dX10_restsIn_58 ?_
        exact gj_iret C dX10_restsIn_59 h
      · refine gj_aload_n C (pc' := 61) (i := 0) rfl dX10_restsIn_60 rfl rfl ?_
        refine gj_iload_n C (pc' := 62) (i := 1) rfl dX10_restsIn_61 rfl rfl ?_
        refine gj_callSi C (pc' := 65) rfl dX10_restsIn_62 wm_X10_85 uX10_above h (kX10_above _ _) (by omega) rfl rfl (Nat.le_of_ble_eq_true rfl) (fun v10 w11 h => ?_)
        refine gj_iload_n C (pc' := 66) (i := 2) rfl dX10_restsIn_65 rfl rfl ?_
        refine gj_callVi C (pc' := 69) rfl dX10_restsIn_66 wm_X10_231 uX10_restsIn h (hf_X10_restsIn _ _ _ _) (by omega) rfl rfl (Nat.le_of_ble_eq_true rfl) (fun v12 w13 h => ?_)
        exact gj_iret C dX10_restsIn_69 h
set_option maxHeartbeats 4000000 in
set_option maxRecDepth 100000 in
theorem kgX10_restsIn : ∀ n : Nat, (∀ (x0 : Nat) (x1 : Int32) (x2 : Int32) (w : ab_W) (r : Int32) (w1 : ab_W), sX10_restsIn n x0 x1 x2 w = some (r, w1) → gj_Mi yX10_restsIn cX10_restsIn 3 (some .int) (1 + n) [.ref x0, .int x1, .int x2] w r w1 ∧ ab_is w 10 x0 = true) := by
  intro n
  induction n with
  | zero => exact by intros; rename_i h; cases h
  | succ n ih =>
    exact kbX10_restsIn ih
set_option maxHeartbeats 4000000 in
set_option maxRecDepth 100000 in
theorem kX10_restsIn (n : Nat) : ∀ (x0 : Nat) (x1 : Int32) (x2 : Int32) (w : ab_W) (r : Int32) (w1 : ab_W), sX10_restsIn n x0 x1 x2 w = some (r, w1) → gj_Mi yX10_restsIn cX10_restsIn 3 (some .int) (1 + n) [.ref x0, .int x1, .int x2] w r w1 ∧ ab_is w 10 x0 = true := (kgX10_restsIn n)
set_option maxHeartbeats 4000000 in
set_option maxRecDepth 100000 in
theorem kbX10_fliesIn {n0 : Nat} {f_X10_fliesIn : Nat → Int32 → Int32 → ab_W → Option (Int32 × ab_W)} (hf_X10_fliesIn : ∀ (x0 : Nat) (x1 : Int32) (x2 : Int32) (w : ab_W) (r : Int32) (w1 : ab_W), f_X10_fliesIn x0 x1 x2 w = some (r, w1) → gj_Mi yX10_fliesIn cX10_fliesIn 4 (some .int) (102 + n0) [.ref x0, .int x1, .int x2] w r w1 ∧ ab_is w 10 x0 = true) : ∀ (x0 : Nat) (x1 : Int32) (x2 : Int32) (w : ab_W) (r : Int32) (w1 : ab_W), bX10_fliesIn f_X10_fliesIn x0 x1 x2 w = some (r, w1) → gj_Mi yX10_fliesIn cX10_fliesIn 4 (some .int) (102 + n0 + 1) [.ref x0, .int x1, .int x2] w r w1 ∧ ab_is w 10 x0 = true := by
  intro x0 x1 x2 w r w1 h
  unfold bX10_fliesIn at h
  obtain ⟨hi, h⟩ := ab_ite h
  refine ⟨?_, hi⟩
  refine gj_Mi_of RX10 [some (.ref x0), some (.int x1), some (.int x2), none] (by decide +kernel) rfl (Nat.le_of_ble_eq_true rfl) rfl (fun p l e s m args below meth c D ad tc A C => ?_)
  refine gj_iload_n C (pc' := 1) (i := 1) rfl dX10_fliesIn_0 rfl rfl ?_
  refine gj_if_ne C (pc' := 4) (tgt := 22) rfl dX10_fliesIn_1 rfl h (fun h => ?_) (fun h => ?_)
  · refine gj_aload_n C (pc' := 5) (i := 0) rfl dX10_fliesIn_4 rfl rfl ?_
    refine gj_bipush C (pc' := 7) (v := 11) rfl dX10_fliesIn_5 (by decide) ?_
    refine gj_callVv C (pc' := 10) rfl dX10_fliesIn_7 wm_X10_219 uX10_ran h (kX10_ran _ _ _) (by omega) rfl rfl (Nat.le_of_ble_eq_true rfl) (fun w1 h => ?_)
    refine gj_aload_n C (pc' := 11) (i := 0) rfl dX10_fliesIn_10 rfl rfl ?_
    refine gj_aload_n C (pc' := 12) (i := 0) rfl dX10_fliesIn_11 rfl rfl ?_
    refine gj_getI C (pc' := 15) rfl dX10_fliesIn_12 wf_X10_234 h (fun v2 h => ?_)
    refine gj_iload_n C (pc' := 16) (i := 2) rfl dX10_fliesIn_15 rfl rfl ?_
    refine gj_callVi C (pc' := 19) rfl dX10_fliesIn_16 wm_X10_225 uX10_creasesIn h (kX10_creasesIn 100 _ _ _ _) (by omega) rfl rfl (Nat.le_of_ble_eq_true rfl) (fun v3 w4 h => ?_)
    refine gj_iconst C (pc' := 20) (v := 2) rfl dX10_fliesIn_19 (by decide) ?_
    refine gj_imul C (pc' := 21) rfl dX10_fliesIn_20 ?_
    exact gj_iret C dX10_fliesIn_21 h
  · refine gj_iload_n C (pc' := 23) (i := 1) rfl dX10_fliesIn_22 rfl rfl ?_
    refine gj_iconst C (pc' := 24) (v := 2) rfl dX10_fliesIn_23 (by decide) ?_
    refine gj_icmp_ne C (pc' := 27) (tgt := 52) rfl dX10_fliesIn_24 rfl h (fun h => ?_) (fun h => ?_)
    · refine gj_aload_n C (pc' := 28) (i := 0) rfl dX10_fliesIn_27 rfl rfl ?_
      refine gj_bipush C (pc' := 30) (v := 30) rfl dX10_fliesIn_28 (by decide) ?_
      refine gj_callVv C (pc' := 33) rfl dX10_fliesIn_30 wm_X10_219 uX10_ran h (kX10_ran _ _ _) (by omega) rfl rfl (Nat.le_of_ble_eq_true rfl) (fun w5 h => ?_)
      refine gj_aload_n C (pc' := 34) (i := 0) rfl dX10_fliesIn_33 rfl rfl ?_
      refine gj_iconst C (pc' := 35) (v := 0) rfl dX10_fliesIn_34 (by decide) ?_
      refine gj_iload_n C (pc' := 36) (i := 2) rfl dX10_fliesIn_35 rfl rfl ?_
      refine gj_callVi C (pc' := 39) rfl dX10_fliesIn_36 wm_X10_237 uX10_fliesIn h (hf_X10_fliesIn _ _ _ _) (by omega) rfl rfl (Nat.le_of_ble_eq_true rfl) (fun v6 w7 h => ?_)
      refine gj_istore_n C (pc' := 40) (i := 3) (lv' := [_, _, _, _]) rfl dX10_fliesIn_39 rfl (by decide) rfl rfl ?_
      refine gj_iload_n C (pc' := 41) (i := 3) rfl dX10_fliesIn_40 rfl rfl ?_
      refine gj_aload_n C (pc' := 42) (i := 0) rfl dX10_fliesIn_41 rfl rfl ?_
      refine gj_aload_n C (pc' := 43) (i := 0) rfl dX10_fliesIn_42 rfl rfl ?_
      refine gj_getI C (pc' := 46) rfl dX10_fliesIn_43 wf_X10_234 h (fun v8 h => ?_)
      refine gj_iconst C (pc' := 47) (v := 1) rfl dX10_fliesIn_46 (by decide) ?_
      refine gj_callVi C (pc' := 50) rfl dX10_fliesIn_47 wm_X10_231 uX10_restsIn h (kX10_restsIn 100 _ _ _ _) (by omega) rfl rfl (Nat.le_of_ble_eq_true rfl) (fun v9 w10 h => ?_)
      refine gj_isub C (pc' := 51) rfl dX10_fliesIn_50 ?_
      exact gj_iret C dX10_fliesIn_51 h
    · refine gj_iload_n C (pc' := 53) (i := 1) rfl dX10_fliesIn_52 rfl rfl ?_
      refine gj_iconst C (pc' := 54) (v := 5) rfl dX10_fliesIn_53 (by decide) ?_
      refine gj_icmp_ne C (pc' := 57) (tgt := 72) rfl dX10_fliesIn_54 rfl h (fun h => ?_) (fun h => ?_)
      · refine gj_aload_n C (pc' := 58) (i := 0) rfl dX10_fliesIn_57 rfl rfl ?_
        refine gj_bipush C (pc' := 60) (v := 60) rfl dX10_fliesIn_58 (by decide) ?_
        refine gj_callVv C (pc' := 63) rfl dX10_fliesIn_60 wm_X10_219 uX10_ran h (kX10_ran _ _ _) (by omega) rfl rfl (Nat.le_of_ble_eq_true rfl) (fun w11 h => ?_)
        refine gj_aload_n C (pc' := 64) (i := 0) rfl dX10_fliesIn_63 rfl rfl ?_
        refine gj_iconst C (pc' := 65) (v := 2) rfl dX10_fliesIn_64 (by decide) ?_
        refine gj_iload_n C (pc' := 66) (i := 2) rfl dX10_fliesIn_65 rfl rfl ?_
        refine gj_iconst C (pc' := 67) (v := 1) rfl dX10_fliesIn_66 (by decide) ?_
        refine gj_iadd C (pc' := 68) rfl dX10_fliesIn_67 ?_
        refine gj_callVi C (pc' := 71) rfl dX10_fliesIn_68 wm_X10_237 uX10_fliesIn h (hf_X10_fliesIn _ _ _ _) (by omega) rfl rfl (Nat.le_of_ble_eq_true rfl) (fun v12 w13 h => ?_)
        exact gj_iret C dX10_fliesIn_71 h
      · refine gj_aload_n C (pc' := 73) (i := 0) rfl dX10_fliesIn_72 rfl rfl ?_
        refine gj_iload_n C (pc' := 74) (i := 1) rfl dX10_fliesIn_73 rfl rfl ?_
        refine gj_callSi C (pc' := 77) rfl dX10_fliesIn_74 wm_X10_85 uX10_above h (kX10_above _ _) (by omega) rfl rfl (Nat.le_of_ble_eq_true rfl) (fun v14 w15 h => ?_)
        refine gj_iload_n C (pc' := 78) (i := 2) rfl dX10_fliesIn_77 rfl rfl ?_
        refine gj_callVi C (pc' := 81) rfl dX10_fliesIn_78 wm_X10_237 uX10_fliesIn h (hf_X10_fliesIn _ _ _ _) (by omega) rfl rfl (Nat.le_of_ble_eq_true rfl) (fun v16 w17 h => ?_)
        exact gj_iret C dX10_fliesIn_81 h
set_option maxHeartbeats 4000000 in
set_option maxRecDepth 100000 in
theorem kgX10_fliesIn : ∀ n : Nat, (∀ (x0 : Nat) (x1 : Int32) (x2 : Int32) (w : ab_W) (r : Int32) (w1 : ab_W), sX10_fliesIn n x0 x1 x2 w = some (r, w1) → gj_Mi yX10_fliesIn cX10_fliesIn 4 (some .int) (102 + n) [.ref x0, .int x1, .int x2] w r w1 ∧ ab_is w 10 x0 = true) := by
  intro n
  induction n with
  | zero => exact by intros; rename_i h; cases h
  | succ n ih =>
    exact kbX10_fliesIn ih
set_option maxHeartbeats 4000000 in
set_option maxRecDepth 100000 in
theorem kX10_fliesIn (n : Nat) : ∀ (x0 : Nat) (x1 : Int32) (x2 : Int32) (w : ab_W) (r : Int32) (w1 : ab_W), sX10_fliesIn n x0 x1 x2 w = some (r, w1) → gj_Mi yX10_fliesIn cX10_fliesIn 4 (some .int) (102 + n) [.ref x0, .int x1, .int x2] w r w1 ∧ ab_is w 10 x0 = true := (kgX10_fliesIn n)
set_option maxHeartbeats 4000000 in
set_option maxRecDepth 100000 in
theorem kbX10_tellsIn {n0 : Nat} {f_X10_tellsIn : Nat → Int32 → Int32 → ab_W → Option (Int32 × ab_W)} (hf_X10_tellsIn : ∀ (x0 : Nat) (x1 : Int32) (x2 : Int32) (w : ab_W) (r : Int32) (w1 : ab_W), f_X10_tellsIn x0 x1 x2 w = some (r, w1) → gj_Mi yX10_tellsIn cX10_tellsIn 4 (some .int) (203 + n0) [.ref x0, .int x1, .int x2] w r w1 ∧ ab_is w 10 x0 = true) : ∀ (x0 : Nat) (x1 : Int32) (x2 : Int32) (w : ab_W) (r : Int32) (w1 : ab_W), bX10_tellsIn f_X10_tellsIn x0 x1 x2 w = some (r, w1) → gj_Mi yX10_tellsIn cX10_tellsIn 4 (some .int) (203 + n0 + 1) [.ref x0, .int x1, .int x2] w r w1 ∧ ab_is w 10 x0 = true := by
  intro x0 x1 x2 w r w1 h
  unfold bX10_tellsIn at h
  obtain ⟨hi, h⟩ := ab_ite h
  refine ⟨?_, hi⟩
  refine gj_Mi_of RX10 [some (.ref x0), some (.int x1), some (.int x2), none] (by decide +kernel) rfl (Nat.le_of_ble_eq_true rfl) rfl (fun p l e s m args below meth c D ad tc A C => ?_)
  refine gj_iload_n C (pc' := 1) (i := 1) rfl dX10_tellsIn_0 rfl rfl ?_
  refine gj_if_ne C (pc' := 4) (tgt := 32) rfl dX10_tellsIn_1 rfl h (fun h => ?_) (fun h => ?_)
  · refine gj_aload_n C (pc' := 5) (i := 0) rfl dX10_tellsIn_4 rfl rfl ?_
    refine gj_bipush C (pc' := 7) (v := 13) rfl dX10_tellsIn_5 (by decide) ?_
    refine gj_callVv C (pc' := 10) rfl dX10_tellsIn_7 wm_X10_219 uX10_ran h (kX10_ran _ _ _) (by omega) rfl rfl (Nat.le_of_ble_eq_true rfl) (fun w1 h => ?_)
    refine gj_aload_n C (pc' := 11) (i := 0) rfl dX10_tellsIn_10 rfl rfl ?_
    refine gj_aload_n C (pc' := 12) (i := 0) rfl dX10_tellsIn_11 rfl rfl ?_
    refine gj_getI C (pc' := 15) rfl dX10_tellsIn_12 wf_X10_234 h (fun v2 h => ?_)
    refine gj_iload_n C (pc' := 16) (i := 2) rfl dX10_tellsIn_15 rfl rfl ?_
    refine gj_callVi C (pc' := 19) rfl dX10_tellsIn_16 wm_X10_237 uX10_fliesIn h (kX10_fliesIn 100 _ _ _ _) (by omega) rfl rfl (Nat.le_of_ble_eq_true rfl) (fun v3 w4 h => ?_)
    refine gj_istore_n C (pc' := 20) (i := 3) (lv' := [_, _, _, _]) rfl dX10_tellsIn_19 rfl (by decide) rfl rfl ?_
    refine gj_iload_n C (pc' := 21) (i := 3) rfl dX10_tellsIn_20 rfl rfl ?_
    refine gj_aload_n C (pc' := 22) (i := 0) rfl dX10_tellsIn_21 rfl rfl ?_
    refine gj_aload_n C (pc' := 23) (i := 0) rfl dX10_tellsIn_22 rfl rfl ?_
    refine gj_getI C (pc' := 26) rfl dX10_tellsIn_23 wf_X10_234 h (fun v5 h => ?_)
    refine gj_iload_n C (pc' := 27) (i := 2) rfl dX10_tellsIn_26 rfl rfl ?_
    refine gj_callVi C (pc' := 30) rfl dX10_tellsIn_27 wm_X10_231 uX10_restsIn h (kX10_restsIn 100 _ _ _ _) (by omega) rfl rfl (Nat.le_of_ble_eq_true rfl) (fun v6 w7 h => ?_)
    refine gj_ixor C (pc' := 31) rfl dX10_tellsIn_30 ?_
    exact gj_iret C dX10_tellsIn_31 h
  · refine gj_iload_n C (pc' := 33) (i := 1) rfl dX10_tellsIn_32 rfl rfl ?_
    refine gj_iconst C (pc' := 34) (v := 4) rfl dX10_tellsIn_33 (by decide) ?_
    refine gj_icmp_ne C (pc' := 37) (tgt := 62) rfl dX10_tellsIn_34 rfl h (fun h => ?_) (fun h => ?_)
    · refine gj_aload_n C (pc' := 38) (i := 0) rfl dX10_tellsIn_37 rfl rfl ?_
      refine gj_bipush C (pc' := 40) (v := 50) rfl dX10_tellsIn_38 (by decide) ?_
      refine gj_callVv C (pc' := 43) rfl dX10_tellsIn_40 wm_X10_219 uX10_ran h (kX10_ran _ _ _) (by omega) rfl rfl (Nat.le_of_ble_eq_true rfl) (fun w8 h => ?_)
      refine gj_aload_n C (pc' := 44) (i := 0) rfl dX10_tellsIn_43 rfl rfl ?_
      refine gj_iconst C (pc' := 45) (v := 1) rfl dX10_tellsIn_44 (by decide) ?_
      refine gj_iload_n C (pc' := 46) (i := 2) rfl dX10_tellsIn_45 rfl rfl ?_
      refine gj_callVi C (pc' := 49) rfl dX10_tellsIn_46 wm_X10_240 uX10_tellsIn h (hf_X10_tellsIn _ _ _ _) (by omega) rfl rfl (Nat.le_of_ble_eq_true rfl) (fun v9 w10 h => ?_)
      refine gj_istore_n C (pc' := 50) (i := 3) (lv' := [_, _, _, _]) rfl dX10_tellsIn_49 rfl (by decide) rfl rfl ?_
      refine gj_iload_n C (pc' := 51) (i := 3) rfl dX10_tellsIn_50 rfl rfl ?_
      refine gj_aload_n C (pc' := 52) (i := 0) rfl dX10_tellsIn_51 rfl rfl ?_
      refine gj_aload_n C (pc' := 53) (i := 0) rfl dX10_tellsIn_52 rfl rfl ?_
      refine gj_getI C (pc' := 56) rfl dX10_tellsIn_53 wf_X10_234 h (fun v11 h => ?_)
      refine gj_iconst C (pc' := 57) (v := 2) rfl dX10_tellsIn_56 (by decide) ?_
      refine gj_callVi C (pc' := 60) rfl dX10_tellsIn_57 wm_X10_225 uX10_creasesIn h (kX10_creasesIn 100 _ _ _ _) (by omega) rfl rfl (Nat.le_of_ble_eq_true rfl) (fun v12 w13 h => ?_)
      refine gj_isub C (pc' := 61) rfl dX10_tellsIn_60 ?_
      exact gj_iret C dX10_tellsIn_61 h
    · refine gj_iload_n C (pc' := 63) (i := 1) rfl dX10_tellsIn_62 rfl rfl ?_
      refine gj_bipush C (pc' := 65) (v := 6) rfl dX10_tellsIn_63 (by decide) ?_
      refine gj_icmp_ne C (pc' := 68) (tgt := 93) rfl dX10_tellsIn_65 rfl h (fun h => ?_) (fun h => ?_)
      · refine gj_aload_n C (pc' := 69) (i := 0) rfl dX10_tellsIn_68 rfl rfl ?_
        refine gj_bipush C (pc' := 71) (v := 71) rfl dX10_tellsIn_69 (by decide) ?_
        refine gj_callVv C (pc' := 74) rfl dX10_tellsIn_71 wm_X10_219 uX10_ran h (kX10_ran _ _ _) (by omega) rfl rfl (Nat.le_of_ble_eq_true rfl) (fun w14 h => ?_)
        refine gj_aload_n C (pc' := 75) (i := 0) rfl dX10_tellsIn_74 rfl rfl ?_
        refine gj_aload_n C (pc' := 76) (i := 0) rfl dX10_tellsIn_75 rfl rfl ?_
        refine gj_getI C (pc' := 79) rfl dX10_tellsIn_76 wf_X10_234 h (fun v15 h => ?_)
        refine gj_iload_n C (pc' := 80) (i := 2) rfl dX10_tellsIn_79 rfl rfl ?_
        refine gj_callVi C (pc' := 83) rfl dX10_tellsIn_80 wm_X10_237 uX10_fliesIn h (kX10_fliesIn 100 _ _ _ _) (by omega) rfl rfl (Nat.le_of_ble_eq_true rfl) (fun v16 w17 h => ?_)
        refine gj_istore_n C (pc' := 84) (i := 3) (lv' := [_, _, _, _]) rfl dX10_tellsIn_83 rfl (by decide) rfl rfl ?_
        refine gj_iload_n C (pc' := 85) (i := 3) rfl dX10_tellsIn_84 rfl rfl ?_
        refine gj_aload_n C (pc' := 86) (i := 0) rfl dX10_tellsIn_85 rfl rfl ?_
        refine gj_iconst C (pc' := 87) (v := 3) rfl dX10_tellsIn_86 (by decide) ?_
        refine gj_iload_n C (pc' := 88) (i := 2) rfl dX10_tellsIn_87 rfl rfl ?_
        refine gj_callVi C (pc' := 91) rfl dX10_tellsIn_88 wm_X10_240 uX10_tellsIn h (hf_X10_tellsIn _ _ _ _) (by omega) rfl rfl (Nat.le_of_ble_eq_true rfl) (fun v18 w19 h => ?_)
        refine gj_isub C (pc' := 92) rfl dX10_tellsIn_91 ?_
        exact gj_iret C dX10_tellsIn_92 h
      · refine gj_aload_n C (pc' := 94) (i := 0) rfl dX10_tellsIn_93 rfl rfl ?_
        refine gj_iload_n C (pc' := 95) (i := 1) rfl dX10_tellsIn_94 rfl rfl ?_
        refine gj_callSi C (pc' := 98) rfl dX10_tellsIn_95 wm_X10_85 uX10_above h (kX10_above _ _) (by omega) rfl rfl (Nat.le_of_ble_eq_true rfl) (fun v20 w21 h => ?_)
        refine gj_iload_n C (pc' := 99) (i := 2) rfl dX10_tellsIn_98 rfl rfl ?_
        refine gj_callVi C (pc' := 102) rfl dX10_tellsIn_99 wm_X10_240 uX10_tellsIn h (hf_X10_tellsIn _ _ _ _) (by omega) rfl rfl (Nat.le_of_ble_eq_true rfl) (fun v22 w23 h => ?_)
        exact gj_iret C dX10_tellsIn_102 h
set_option maxHeartbeats 4000000 in
set_option maxRecDepth 100000 in
theorem kgX10_tellsIn : ∀ n : Nat, (∀ (x0 : Nat) (x1 : Int32) (x2 : Int32) (w : ab_W) (r : Int32) (w1 : ab_W), sX10_tellsIn n x0 x1 x2 w = some (r, w1) → gj_Mi yX10_tellsIn cX10_tellsIn 4 (some .int) (203 + n) [.ref x0, .int x1, .int x2] w r w1 ∧ ab_is w 10 x0 = true) := by
  intro n
  induction n with
  | zero => exact by intros; rename_i h; cases h
  | succ n ih =>
    exact kbX10_tellsIn ih
set_option maxHeartbeats 4000000 in
set_option maxRecDepth 100000 in
theorem kX10_tellsIn (n : Nat) : ∀ (x0 : Nat) (x1 : Int32) (x2 : Int32) (w : ab_W) (r : Int32) (w1 : ab_W), sX10_tellsIn n x0 x1 x2 w = some (r, w1) → gj_Mi yX10_tellsIn cX10_tellsIn 4 (some .int) (203 + n) [.ref x0, .int x1, .int x2] w r w1 ∧ ab_is w 10 x0 = true := (kgX10_tellsIn n)
set_option maxHeartbeats 4000000 in
set_option maxRecDepth 100000 in
theorem kX10_voice_17 {p : Program} {l : Launch} {e : Env} {s : State} {m : MethodId} {args : Array Value} {below : List Frame} {meth : Method} {c : Code} {D : va_G} {ad : Nat → Nat} {tc : Nat → ClassId} {A : Nat → Prop} (C : gj_C p s m args meth c D ad tc A cX10_voice 4 (some .int) RX10) {r : Int32} {w1 : ab_W} {x0 : Nat} {w : ab_W} (h : sX10_voice_17 x0 w = some (r, w1)) : gj_G p l e (gj_R 304) s m args below meth c D ad tc A 4 (gj_Qi D ad tc A below args s r w1) 17 [some (.ref x0), none, none, none] [] w := by
  unfold sX10_voice_17 at h
  refine gj_aload_n C (pc' := 18) (i := 0) rfl dX10_voice_17 rfl rfl ?_
  refine gj_ldc C (pc' := 20) rfl dX10_voice_18 wk_X10_51 ?_
  refine gj_callVi C (pc' := 23) rfl dX10_voice_20 wm_X10_52 uX10_errs h (kX10_errs _ _ _) (by omega) rfl rfl (Nat.le_of_ble_eq_true rfl) (fun v1 w2 h => ?_)
  exact gj_iret C dX10_voice_23 h
set_option maxHeartbeats 4000000 in
set_option maxRecDepth 100000 in
theorem kX10_voice : ∀ (x0 : Nat) (x1 : Int32) (x2 : Int32) (x3 : Int32) (w : ab_W) (r : Int32) (w1 : ab_W), sX10_voice x0 x1 x2 x3 w = some (r, w1) → gj_Mi yX10_voice cX10_voice 4 (some .int) 304 [.ref x0, .int x1, .int x2, .int x3] w r w1 ∧ ab_is w 10 x0 = true := by
  intro x0 x1 x2 x3 w r w1 h
  unfold sX10_voice at h
  obtain ⟨hi, h⟩ := ab_ite h
  refine ⟨?_, hi⟩
  refine gj_Mi_of RX10 [some (.ref x0), some (.int x1), some (.int x2), some (.int x3)] (by decide +kernel) rfl (Nat.le_of_ble_eq_true rfl) rfl (fun p l e s m args below meth c D ad tc A C => ?_)
  refine gj_aload_n C (pc' := 1) (i := 0) rfl dX10_voice_0 rfl rfl ?_
  refine gj_iload_n C (pc' := 2) (i := 1) rfl dX10_voice_1 rfl rfl ?_
  refine gj_callVi C (pc' := 5) rfl dX10_voice_2 wm_X10_61 uX10_isPaper h (kX10_isPaper _ _ _) (by omega) rfl rfl (Nat.le_of_ble_eq_true rfl) (fun v1 w2 h => ?_)
  refine gj_if_eq C (pc' := 8) (tgt := 17) rfl dX10_voice_5 rfl h (fun h => ?_) (fun h => ?_)
  · refine gj_drop (lv' := [some _, none, none, none]) (And.intro rfl True.intro) ?_
    exact kX10_voice_17 C h
  · refine gj_iload_n C (pc' := 9) (i := 2) rfl dX10_voice_8 rfl rfl ?_
    refine gj_iconst C (pc' := 10) (v := 0) rfl dX10_voice_9 (by decide) ?_
    refine gj_iconst C (pc' := 11) (v := 3) rfl dX10_voice_10 (by decide) ?_
    refine gj_callSi C (pc' := 14) rfl dX10_voice_11 wm_X10_47 uX10_in h (kX10_in _ _ _ _) (by omega) rfl rfl (Nat.le_of_ble_eq_true rfl) (fun v3 w4 h => ?_)
    refine gj_if_ne C (pc' := 17) (tgt := 24) rfl dX10_voice_14 rfl h (fun h => ?_) (fun h => ?_)
    · refine gj_drop (lv' := [some _, none, none, none]) (And.intro rfl True.intro) ?_
      exact kX10_voice_17 C h
    · refine gj_aload_n C (pc' := 25) (i := 0) rfl dX10_voice_24 rfl rfl ?_
      refine gj_iconst C (pc' := 26) (v := 0) rfl dX10_voice_25 (by decide) ?_
      refine gj_putI C (pc' := 29) (ty := .int) rfl dX10_voice_26 wf_X10_216 wp_X10_22 rfl h (fun w5 h => ?_)
      refine gj_aload_n C (pc' := 30) (i := 0) rfl dX10_voice_29 rfl rfl ?_
      refine gj_aload_n C (pc' := 31) (i := 0) rfl dX10_voice_30 rfl rfl ?_
      refine gj_iload_n C (pc' := 32) (i := 1) rfl dX10_voice_31 rfl rfl ?_
      refine gj_iconst C (pc' := 33) (v := 0) rfl dX10_voice_32 (by decide) ?_
      refine gj_callVi C (pc' := 36) rfl dX10_voice_33 wm_X10_65 uX10_its h (kX10_its _ _ _ _) (by omega) rfl rfl (Nat.le_of_ble_eq_true rfl) (fun v6 w7 h => ?_)
      refine gj_putI C (pc' := 39) (ty := .int) rfl dX10_voice_36 wf_X10_234 wp_X10_23 rfl h (fun w8 h => ?_)
      refine gj_aload_n C (pc' := 40) (i := 0) rfl dX10_voice_39 rfl rfl ?_
      refine gj_iload_n C (pc' := 41) (i := 1) rfl dX10_voice_40 rfl rfl ?_
      refine gj_putI C (pc' := 44) (ty := .int) rfl dX10_voice_41 wf_X10_222 wp_X10_24 rfl h (fun w9 h => ?_)
      refine gj_aload_n C (pc' := 45) (i := 0) rfl dX10_voice_44 rfl rfl ?_
      refine gj_aload_n C (pc' := 46) (i := 0) rfl dX10_voice_45 rfl rfl ?_
      refine gj_iload_n C (pc' := 47) (i := 1) rfl dX10_voice_46 rfl rfl ?_
      refine gj_iconst C (pc' := 48) (v := 1) rfl dX10_voice_47 (by decide) ?_
      refine gj_callVi C (pc' := 51) rfl dX10_voice_48 wm_X10_65 uX10_its h (kX10_its _ _ _ _) (by omega) rfl rfl (Nat.le_of_ble_eq_true rfl) (fun v10 w11 h => ?_)
      refine gj_putI C (pc' := 54) (ty := .int) rfl dX10_voice_51 wf_X10_228 wp_X10_25 rfl h (fun w12 h => ?_)
      refine gj_iload_n C (pc' := 55) (i := 2) rfl dX10_voice_54 rfl rfl ?_
      refine gj_tab C (tgt := 80) dX10_voice_55 0 0 (by decide) (by decide) rfl (by decide) h (fun h => ?_) (fun n55_0 h => ?_)
      · refine gj_aload_n C (pc' := 81) (i := 0) rfl dX10_voice_80 rfl rfl ?_
        refine gj_aload_n C (pc' := 82) (i := 0) rfl dX10_voice_81 rfl rfl ?_
        refine gj_getI C (pc' := 85) rfl dX10_voice_82 wf_X10_234 h (fun v13 h => ?_)
        refine gj_iload_n C (pc' := 86) (i := 3) rfl dX10_voice_85 rfl rfl ?_
        refine gj_callVi C (pc' := 89) rfl dX10_voice_86 wm_X10_225 uX10_creasesIn h (kX10_creasesIn 100 _ _ _ _) (by omega) rfl rfl (Nat.le_of_ble_eq_true rfl) (fun v14 w15 h => ?_)
        exact gj_iret C dX10_voice_89 h
      refine gj_tab C (tgt := 90) dX10_voice_55 1 1 (by decide) (by decide) rfl (by decide) h (fun h => ?_) (fun n55_1 h => ?_)
      · refine gj_aload_n C (pc' := 91) (i := 0) rfl dX10_voice_90 rfl rfl ?_
        refine gj_aload_n C (pc' := 92) (i := 0) rfl dX10_voice_91 rfl rfl ?_
        refine gj_getI C (pc' := 95) rfl dX10_voice_92 wf_X10_234 h (fun v16 h => ?_)
        refine gj_iload_n C (pc' := 96) (i := 3) rfl dX10_voice_95 rfl rfl ?_
        refine gj_callVi C (pc' := 99) rfl dX10_voice_96 wm_X10_237 uX10_fliesIn h (kX10_fliesIn 100 _ _ _ _) (by omega) rfl rfl (Nat.le_of_ble_eq_true rfl) (fun v17 w18 h => ?_)
        exact gj_iret C dX10_voice_99 h
      refine gj_tab C (tgt := 100) dX10_voice_55 2 2 (by decide) (by decide) rfl (by decide) h (fun h => ?_) (fun n55_2 h => ?_)
      · refine gj_aload_n C (pc' := 101) (i := 0) rfl dX10_voice_100 rfl rfl ?_
        refine gj_aload_n C (pc' := 102) (i := 0) rfl dX10_voice_101 rfl rfl ?_
        refine gj_getI C (pc' := 105) rfl dX10_voice_102 wf_X10_234 h (fun v19 h => ?_)
        refine gj_iload_n C (pc' := 106) (i := 3) rfl dX10_voice_105 rfl rfl ?_
        refine gj_callVi C (pc' := 109) rfl dX10_voice_106 wm_X10_231 uX10_restsIn h (kX10_restsIn 100 _ _ _ _) (by omega) rfl rfl (Nat.le_of_ble_eq_true rfl) (fun v20 w21 h => ?_)
        exact gj_iret C dX10_voice_109 h
      refine gj_tabD C (tgt := 110) dX10_voice_55 (by decide) (gj_tout _ 0 3 (fun j hj => match j, hj with | 0, _ => lv_neT n55_0 (by decide) | 1, _ => lv_neT n55_1 (by decide) | 2, _ => lv_neT n55_2 (by decide) | j + 3, hj => absurd hj (by omega))) ?_
      refine gj_aload_n C (pc' := 111) (i := 0) rfl dX10_voice_110 rfl rfl ?_
      refine gj_aload_n C (pc' := 112) (i := 0) rfl dX10_voice_111 rfl rfl ?_
      refine gj_getI C (pc' := 115) rfl dX10_voice_112 wf_X10_234 h (fun v22 h => ?_)
      refine gj_iload_n C (pc' := 116) (i := 3) rfl dX10_voice_115 rfl rfl ?_
      refine gj_callVi C (pc' := 119) rfl dX10_voice_116 wm_X10_240 uX10_tellsIn h (kX10_tellsIn 100 _ _ _ _) (by omega) rfl rfl (Nat.le_of_ble_eq_true rfl) (fun v23 w24 h => ?_)
      exact gj_iret C dX10_voice_119 h
set_option maxHeartbeats 4000000 in
set_option maxRecDepth 100000 in
theorem kX10_trace : ∀ (x0 : Nat) (x1 : Int32) (w : ab_W) (r : Int32) (w1 : ab_W), sX10_trace x0 x1 w = some (r, w1) → gj_Mi yX10_trace cX10_trace 2 (some .int) 1 [.ref x0, .int x1] w r w1 ∧ ab_is w 10 x0 = true := by
  intro x0 x1 w r w1 h
  unfold sX10_trace at h
  obtain ⟨hi, h⟩ := ab_ite h
  refine ⟨?_, hi⟩
  refine gj_Mi_of RX10 [some (.ref x0), some (.int x1)] (by decide +kernel) rfl (Nat.le_of_ble_eq_true rfl) rfl (fun p l e s m args below meth c D ad tc A C => ?_)
  refine gj_iload_n C (pc' := 1) (i := 1) rfl dX10_trace_0 rfl rfl ?_
  refine gj_iconst C (pc' := 2) (v := 0) rfl dX10_trace_1 (by decide) ?_
  refine gj_aload_n C (pc' := 3) (i := 0) rfl dX10_trace_2 rfl rfl ?_
  refine gj_getI C (pc' := 6) rfl dX10_trace_3 wf_X10_216 h (fun v1 h => ?_)
  refine gj_iconst C (pc' := 7) (v := 1) rfl dX10_trace_6 (by decide) ?_
  refine gj_isub C (pc' := 8) rfl dX10_trace_7 ?_
  refine gj_callSi C (pc' := 11) rfl dX10_trace_8 wm_X10_47 uX10_in h (kX10_in _ _ _ _) (by omega) rfl rfl (Nat.le_of_ble_eq_true rfl) (fun v2 w3 h => ?_)
  refine gj_if_eq C (pc' := 14) (tgt := 23) rfl dX10_trace_11 rfl h (fun h => ?_) (fun h => ?_)
  · refine gj_aload_n C (pc' := 24) (i := 0) rfl dX10_trace_23 rfl rfl ?_
    refine gj_ldc C (pc' := 26) rfl dX10_trace_24 wk_X10_182 ?_
    refine gj_callVi C (pc' := 29) rfl dX10_trace_26 wm_X10_52 uX10_errs h (kX10_errs _ _ _) (by omega) rfl rfl (Nat.le_of_ble_eq_true rfl) (fun v4 w5 h => ?_)
    exact gj_iret C dX10_trace_29 h
  · refine gj_aload_n C (pc' := 15) (i := 0) rfl dX10_trace_14 rfl rfl ?_
    refine gj_getR C (pc' := 18) rfl dX10_trace_15 wf_X10_43 h (fun v6 h => ?_)
    refine gj_iload_n C (pc' := 19) (i := 1) rfl dX10_trace_18 rfl rfl ?_
    refine gj_iald C (pc' := 20) rfl dX10_trace_19 h (fun v7 h => ?_)
    refine gj_goto C (tgt := 29) dX10_trace_20 rfl ?_
    exact gj_iret C dX10_trace_29 h
set_option maxHeartbeats 4000000 in
set_option maxRecDepth 100000 in
theorem kX10_narrow : ∀ (x0 : Int32) (x1 : Int32) (w : ab_W) (r : Int32) (w1 : ab_W), sX10_narrow x0 x1 w = some (r, w1) → gj_Mi yX10_narrow cX10_narrow 2 (some .int) 0 [.int x0, .int x1] w r w1 := by
  intro x0 x1 w r w1 h
  unfold sX10_narrow at h
  refine gj_Mi_of RX10 [some (.int x0), some (.int x1)] (by decide +kernel) rfl (Nat.le_of_ble_eq_true rfl) rfl (fun p l e s m args below meth c D ad tc A C => ?_)
  refine gj_iload_n C (pc' := 1) (i := 0) rfl dX10_narrow_0 rfl rfl ?_
  refine gj_bipush C (pc' := 3) (v := 8) rfl dX10_narrow_1 (by decide) ?_
  refine gj_icmp_ne C (pc' := 6) (tgt := 11) rfl dX10_narrow_3 rfl h (fun h => ?_) (fun h => ?_)
  · refine gj_iload_n C (pc' := 7) (i := 1) rfl dX10_narrow_6 rfl rfl ?_
    refine gj_i2b C (pc' := 8) rfl dX10_narrow_7 ?_
    refine gj_goto C (tgt := 23) dX10_narrow_8 rfl ?_
    exact gj_iret C dX10_narrow_23 h
  · refine gj_iload_n C (pc' := 12) (i := 0) rfl dX10_narrow_11 rfl rfl ?_
    refine gj_bipush C (pc' := 14) (v := 16) rfl dX10_narrow_12 (by decide) ?_
    refine gj_icmp_ne C (pc' := 17) (tgt := 22) rfl dX10_narrow_14 rfl h (fun h => ?_) (fun h => ?_)
    · refine gj_iload_n C (pc' := 18) (i := 1) rfl dX10_narrow_17 rfl rfl ?_
      refine gj_i2s C (pc' := 19) rfl dX10_narrow_18 ?_
      refine gj_goto C (tgt := 23) dX10_narrow_19 rfl ?_
      exact gj_iret C dX10_narrow_23 h
    · refine gj_iload_n C (pc' := 23) (i := 1) rfl dX10_narrow_22 rfl rfl ?_
      exact gj_iret C dX10_narrow_23 h
set_option maxHeartbeats 4000000 in
set_option maxRecDepth 100000 in
theorem kX10_sheet_29 {p : Program} {l : Launch} {e : Env} {s : State} {m : MethodId} {args : Array Value} {below : List Frame} {meth : Method} {c : Code} {D : va_G} {ad : Nat → Nat} {tc : Nat → ClassId} {A : Nat → Prop} (C : gj_C p s m args meth c D ad tc A cX10_sheet 5 (some .int) RX10) {r : Int32} {w1 : ab_W} {x0 : Nat} {w : ab_W} (h : sX10_sheet_29 x0 w = some (r, w1)) : gj_G p l e (gj_R 2) s m args below meth c D ad tc A 5 (gj_Qi D ad tc A below args s r w1) 29 [some (.ref x0), none, none, none, none] [] w := by
  unfold sX10_sheet_29 at h
  refine gj_aload_n C (pc' := 30) (i := 0) rfl dX10_sheet_29 rfl rfl ?_
  refine gj_ldc C (pc' := 32) rfl dX10_sheet_30 wk_X10_51 ?_
  refine gj_callVi C (pc' := 35) rfl dX10_sheet_32 wm_X10_52 uX10_errs h (kX10_errs _ _ _) (by omega) rfl rfl (Nat.le_of_ble_eq_true rfl) (fun v1 w2 h => ?_)
  exact gj_iret C dX10_sheet_35 h
set_option maxHeartbeats 4000000 in
set_option maxRecDepth 100000 in
theorem kX10_sheet_93 {p : Program} {l : Launch} {e : Env} {s : State} {m : MethodId} {args : Array Value} {below : List Frame} {meth : Method} {c : Code} {D : va_G} {ad : Nat → Nat} {tc : Nat → ClassId} {A : Nat → Prop} (C : gj_C p s m args meth c D ad tc A cX10_sheet 5 (some .int) RX10) {r : Int32} {w1 : ab_W} : ∀ {n : Nat} {x0 : Nat} {x1 : Int32} {x4 : Int32} {w : ab_W}, sX10_sheet_93 n x0 x1 x4 w = some (r, w1) → gj_G p l e (gj_R 2) s m args below meth c D ad tc A 5 (gj_Qi D ad tc A below args s r w1) 93 [some (.ref x0), some (.int x1), none, none, some (.int x4)] [] w := by
  intro n
  induction n with
  | zero =>
    intros
    rename_i h
    cases h
  | succ n ih =>
    intro x0 x1 x4 w h
    rw [sX10_sheet_93] at h
    refine gj_iload C (pc' := 95) (i := 4) rfl dX10_sheet_93 rfl ?_
    refine gj_bipush C (pc' := 97) (v := 40) rfl dX10_sheet_95 (by decide) ?_
    refine gj_icmp_ge C (pc' := 100) (tgt := 119) rfl dX10_sheet_97 rfl h (fun h => ?_) (fun h => ?_)
    · refine gj_aload_n C (pc' := 101) (i := 0) rfl dX10_sheet_100 rfl rfl ?_
      refine gj_getR C (pc' := 104) rfl dX10_sheet_101 wf_X10_37 h (fun v1 h => ?_)
      refine gj_bipush C (pc' := 106) (v := 40) rfl dX10_sheet_104 (by decide) ?_
      refine gj_iload_n C (pc' := 107) (i := 1) rfl dX10_sheet_106 rfl rfl ?_
      refine gj_imul C (pc' := 108) rfl dX10_sheet_107 ?_
      refine gj_iload C (pc' := 110) (i := 4) rfl dX10_sheet_108 rfl ?_
      refine gj_iadd C (pc' := 111) rfl dX10_sheet_110 ?_
      refine gj_iconst C (pc' := 112) (v := 0) rfl dX10_sheet_111 (by decide) ?_
      refine gj_iast C (pc' := 113) rfl dX10_sheet_112 h (fun w2 h => ?_)
      refine gj_iinc C (pc' := 116) (i := 4) (v := _ + 1) (lv' := [_, _, _, _, _]) rfl dX10_sheet_113 rfl rfl (by decide) rfl rfl ?_
      refine gj_goto C (tgt := 93) dX10_sheet_116 rfl ?_
      refine gj_drop (lv' := [some _, some _, none, none, some _]) (And.intro rfl (And.intro rfl (And.intro rfl True.intro))) ?_
      exact ih h
    · refine gj_iconst C (pc' := 120) (v := 1) rfl dX10_sheet_119 (by decide) ?_
      exact gj_iret C dX10_sheet_120 h
set_option maxHeartbeats 4000000 in
set_option maxRecDepth 100000 in
theorem kX10_sheet_89 {p : Program} {l : Launch} {e : Env} {s : State} {m : MethodId} {args : Array Value} {below : List Frame} {meth : Method} {c : Code} {D : va_G} {ad : Nat → Nat} {tc : Nat → ClassId} {A : Nat → Prop} (C : gj_C p s m args meth c D ad tc A cX10_sheet 5 (some .int) RX10) {r : Int32} {w1 : ab_W} {x0 : Nat} {x1 : Int32} {p0 : Nat} {p1 : Int32} {p2 : Int32} {w : ab_W} (h : sX10_sheet_89 x0 x1 p0 p1 p2 w = some (r, w1)) : gj_G p l e (gj_R 2) s m args below meth c D ad tc A 5 (gj_Qi D ad tc A below args s r w1) 89 [some (.ref x0), some (.int x1), none, none, none] [.int p2, .int p1, .ref p0] w := by
  unfold sX10_sheet_89 at h
  refine gj_iast C (pc' := 90) rfl dX10_sheet_89 h (fun w1 h => ?_)
  refine gj_iconst C (pc' := 91) (v := 0) rfl dX10_sheet_90 (by decide) ?_
  refine gj_istore C (pc' := 93) (i := 4) (lv' := [_, _, _, _, _]) rfl dX10_sheet_91 (by decide) rfl rfl ?_
  refine gj_drop (lv' := [some _, some _, none, none, some _]) (And.intro rfl (And.intro rfl (And.intro rfl True.intro))) ?_
  exact kX10_sheet_93 C h
set_option maxHeartbeats 4000000 in
set_option maxRecDepth 100000 in
theorem kX10_sheet_68 {p : Program} {l : Launch} {e : Env} {s : State} {m : MethodId} {args : Array Value} {below : List Frame} {meth : Method} {c : Code} {D : va_G} {ad : Nat → Nat} {tc : Nat → ClassId} {A : Nat → Prop} (C : gj_C p s m args meth c D ad tc A cX10_sheet 5 (some .int) RX10) {r : Int32} {w1 : ab_W} {x0 : Nat} {x1 : Int32} {x2 : Int32} {x3 : Int32} {w : ab_W} (h : sX10_sheet_68 x0 x1 x2 x3 w = some (r, w1)) : gj_G p l e (gj_R 2) s m args below meth c D ad tc A 5 (gj_Qi D ad tc A below args s r w1) 68 [some (.ref x0), some (.int x1), some (.int x2), some (.int x3), none] [] w := by
  unfold sX10_sheet_68 at h
  refine gj_aload_n C (pc' := 69) (i := 0) rfl dX10_sheet_68 rfl rfl ?_
  refine gj_getR C (pc' := 72) rfl dX10_sheet_69 wf_X10_31 h (fun v1 h => ?_)
  refine gj_iload_n C (pc' := 73) (i := 1) rfl dX10_sheet_72 rfl rfl ?_
  refine gj_iload_n C (pc' := 74) (i := 2) rfl dX10_sheet_73 rfl rfl ?_
  refine gj_iast C (pc' := 75) rfl dX10_sheet_74 h (fun w2 h => ?_)
  refine gj_aload_n C (pc' := 76) (i := 0) rfl dX10_sheet_75 rfl rfl ?_
  refine gj_getR C (pc' := 79) rfl dX10_sheet_76 wf_X10_34 h (fun v3 h => ?_)
  refine gj_iload_n C (pc' := 80) (i := 1) rfl dX10_sheet_79 rfl rfl ?_
  refine gj_iload_n C (pc' := 81) (i := 2) rfl dX10_sheet_80 rfl rfl ?_
  refine gj_if_ne C (pc' := 84) (tgt := 88) rfl dX10_sheet_81 rfl h (fun h => ?_) (fun h => ?_)
  · refine gj_iconst C (pc' := 85) (v := 0) rfl dX10_sheet_84 (by decide) ?_
    refine gj_goto C (tgt := 89) dX10_sheet_85 rfl ?_
    refine gj_drop (lv' := [some _, some _, none, none, none]) (And.intro rfl (And.intro rfl True.intro)) ?_
    exact kX10_sheet_89 C h
  · refine gj_iload_n C (pc' := 89) (i := 3) rfl dX10_sheet_88 rfl rfl ?_
    refine gj_drop (lv' := [some _, some _, none, none, none]) (And.intro rfl (And.intro rfl True.intro)) ?_
    exact kX10_sheet_89 C h
set_option maxHeartbeats 4000000 in
set_option maxRecDepth 100000 in
theorem kX10_sheet_51 {p : Program} {l : Launch} {e : Env} {s : State} {m : MethodId} {args : Array Value} {below : List Frame} {meth : Method} {c : Code} {D : va_G} {ad : Nat → Nat} {tc : Nat → ClassId} {A : Nat → Prop} (C : gj_C p s m args meth c D ad tc A cX10_sheet 5 (some .int) RX10) {r : Int32} {w1 : ab_W} {x0 : Nat} {x1 : Int32} {x2 : Int32} {x3 : Int32} {w : ab_W} (h : sX10_sheet_51 x0 x1 x2 x3 w = some (r, w1)) : gj_G p l e (gj_R 2) s m args below meth c D ad tc A 5 (gj_Qi D ad tc A below args s r w1) 51 [some (.ref x0), some (.int x1), some (.int x2), some (.int x3), none] [] w := by
  unfold sX10_sheet_51 at h
  refine gj_iload_n C (pc' := 52) (i := 2) rfl dX10_sheet_51 rfl rfl ?_
  refine gj_if_eq C (pc' := 55) (tgt := 68) rfl dX10_sheet_52 rfl h (fun h => ?_) (fun h => ?_)
  · refine gj_drop (lv' := [some _, some _, some _, some _, none]) (And.intro rfl (And.intro rfl (And.intro rfl (And.intro rfl True.intro)))) ?_
    exact kX10_sheet_68 C h
  · refine gj_iload_n C (pc' := 56) (i := 3) rfl dX10_sheet_55 rfl rfl ?_
    refine gj_bipush C (pc' := 58) (v := 40) rfl dX10_sheet_56 (by decide) ?_
    refine gj_icmp_le C (pc' := 61) (tgt := 68) rfl dX10_sheet_58 rfl h (fun h => ?_) (fun h => ?_)
    · refine gj_aload_n C (pc' := 62) (i := 0) rfl dX10_sheet_61 rfl rfl ?_
      refine gj_ldc C (pc' := 64) rfl dX10_sheet_62 wk_X10_51 ?_
      refine gj_callVi C (pc' := 67) rfl dX10_sheet_64 wm_X10_52 uX10_errs h (kX10_errs _ _ _) (by omega) rfl rfl (Nat.le_of_ble_eq_true rfl) (fun v1 w2 h => ?_)
      exact gj_iret C dX10_sheet_67 h
    · refine gj_drop (lv' := [some _, some _, some _, some _, none]) (And.intro rfl (And.intro rfl (And.intro rfl (And.intro rfl True.intro)))) ?_
      exact kX10_sheet_68 C h
set_option maxHeartbeats 4000000 in
set_option maxRecDepth 100000 in
theorem kX10_sheet_36 {p : Program} {l : Launch} {e : Env} {s : State} {m : MethodId} {args : Array Value} {below : List Frame} {meth : Method} {c : Code} {D : va_G} {ad : Nat → Nat} {tc : Nat → ClassId} {A : Nat → Prop} (C : gj_C p s m args meth c D ad tc A cX10_sheet 5 (some .int) RX10) {r : Int32} {w1 : ab_W} {x0 : Nat} {x1 : Int32} {x2 : Int32} {x3 : Int32} {w : ab_W} (h : sX10_sheet_36 x0 x1 x2 x3 w = some (r, w1)) : gj_G p l e (gj_R 2) s m args below meth c D ad tc A 5 (gj_Qi D ad tc A below args s r w1) 36 [some (.ref x0), some (.int x1), some (.int x2), some (.int x3), none] [] w := by
  unfold sX10_sheet_36 at h
  refine gj_iload_n C (pc' := 37) (i := 2) rfl dX10_sheet_36 rfl rfl ?_
  refine gj_if_eq C (pc' := 40) (tgt := 51) rfl dX10_sheet_37 rfl h (fun h => ?_) (fun h => ?_)
  · refine gj_drop (lv' := [some _, some _, some _, some _, none]) (And.intro rfl (And.intro rfl (And.intro rfl (And.intro rfl True.intro)))) ?_
    exact kX10_sheet_51 C h
  · refine gj_iload_n C (pc' := 41) (i := 3) rfl dX10_sheet_40 rfl rfl ?_
    refine gj_if_ge C (pc' := 44) (tgt := 51) rfl dX10_sheet_41 rfl h (fun h => ?_) (fun h => ?_)
    · refine gj_aload_n C (pc' := 45) (i := 0) rfl dX10_sheet_44 rfl rfl ?_
      refine gj_ldc C (pc' := 47) rfl dX10_sheet_45 wk_X10_183 ?_
      refine gj_callVi C (pc' := 50) rfl dX10_sheet_47 wm_X10_52 uX10_errs h (kX10_errs _ _ _) (by omega) rfl rfl (Nat.le_of_ble_eq_true rfl) (fun v1 w2 h => ?_)
      exact gj_iret C dX10_sheet_50 h
    · refine gj_drop (lv' := [some _, some _, some _, some _, none]) (And.intro rfl (And.intro rfl (And.intro rfl (And.intro rfl True.intro)))) ?_
      exact kX10_sheet_51 C h
set_option maxHeartbeats 4000000 in
set_option maxRecDepth 100000 in
theorem kX10_sheet : ∀ (x0 : Nat) (x1 : Int32) (x2 : Int32) (x3 : Int32) (w : ab_W) (r : Int32) (w1 : ab_W), sX10_sheet x0 x1 x2 x3 w = some (r, w1) → gj_Mi yX10_sheet cX10_sheet 5 (some .int) 2 [.ref x0, .int x1, .int x2, .int x3] w r w1 ∧ ab_is w 10 x0 = true := by
  intro x0 x1 x2 x3 w r w1 h
  unfold sX10_sheet at h
  obtain ⟨hi, h⟩ := ab_ite h
  refine ⟨?_, hi⟩
  refine gj_Mi_of RX10 [some (.ref x0), some (.int x1), some (.int x2), some (.int x3), none] (by decide +kernel) rfl (Nat.le_of_ble_eq_true rfl) rfl (fun p l e s m args below meth c D ad tc A C => ?_)
  refine gj_iload_n C (pc' := 1) (i := 1) rfl dX10_sheet_0 rfl rfl ?_
  refine gj_callSi C (pc' := 4) rfl dX10_sheet_1 wm_X10_207 uX10_isSheet h (kX10_isSheet _ _) (by omega) rfl rfl (Nat.le_of_ble_eq_true rfl) (fun v1 w2 h => ?_)
  refine gj_if_eq C (pc' := 7) (tgt := 29) rfl dX10_sheet_4 rfl h (fun h => ?_) (fun h => ?_)
  · refine gj_drop (lv' := [some _, none, none, none, none]) (And.intro rfl True.intro) ?_
    exact kX10_sheet_29 C h
  · refine gj_iload_n C (pc' := 8) (i := 2) rfl dX10_sheet_7 rfl rfl ?_
    refine gj_if_eq C (pc' := 11) (tgt := 36) rfl dX10_sheet_8 rfl h (fun h => ?_) (fun h => ?_)
    · refine gj_drop (lv' := [some _, some _, some _, some _, none]) (And.intro rfl (And.intro rfl (And.intro rfl (And.intro rfl True.intro)))) ?_
      exact kX10_sheet_36 C h
    · refine gj_iload_n C (pc' := 12) (i := 2) rfl dX10_sheet_11 rfl rfl ?_
      refine gj_bipush C (pc' := 14) (v := 8) rfl dX10_sheet_12 (by decide) ?_
      refine gj_icmp_eq C (pc' := 17) (tgt := 36) rfl dX10_sheet_14 rfl h (fun h => ?_) (fun h => ?_)
      · refine gj_drop (lv' := [some _, some _, some _, some _, none]) (And.intro rfl (And.intro rfl (And.intro rfl (And.intro rfl True.intro)))) ?_
        exact kX10_sheet_36 C h
      · refine gj_iload_n C (pc' := 18) (i := 2) rfl dX10_sheet_17 rfl rfl ?_
        refine gj_bipush C (pc' := 20) (v := 16) rfl dX10_sheet_18 (by decide) ?_
        refine gj_icmp_eq C (pc' := 23) (tgt := 36) rfl dX10_sheet_20 rfl h (fun h => ?_) (fun h => ?_)
        · refine gj_drop (lv' := [some _, some _, some _, some _, none]) (And.intro rfl (And.intro rfl (And.intro rfl (And.intro rfl True.intro)))) ?_
          exact kX10_sheet_36 C h
        · refine gj_iload_n C (pc' := 24) (i := 2) rfl dX10_sheet_23 rfl rfl ?_
          refine gj_bipush C (pc' := 26) (v := 32) rfl dX10_sheet_24 (by decide) ?_
          refine gj_icmp_eq C (pc' := 29) (tgt := 36) rfl dX10_sheet_26 rfl h (fun h => ?_) (fun h => ?_)
          · refine gj_drop (lv' := [some _, some _, some _, some _, none]) (And.intro rfl (And.intro rfl (And.intro rfl (And.intro rfl True.intro)))) ?_
            exact kX10_sheet_36 C h
          · refine gj_drop (lv' := [some _, none, none, none, none]) (And.intro rfl True.intro) ?_
            exact kX10_sheet_29 C h
set_option maxHeartbeats 4000000 in
set_option maxRecDepth 100000 in
theorem kX10_put : ∀ (x0 : Nat) (x1 : Int32) (x2 : Int32) (x3 : Int32) (w : ab_W) (r : Int32) (w1 : ab_W), sX10_put x0 x1 x2 x3 w = some (r, w1) → gj_Mi yX10_put cX10_put 4 (some .int) 2 [.ref x0, .int x1, .int x2, .int x3] w r w1 ∧ ab_is w 10 x0 = true := by
  intro x0 x1 x2 x3 w r w1 h
  unfold sX10_put at h
  obtain ⟨hi, h⟩ := ab_ite h
  refine ⟨?_, hi⟩
  refine gj_Mi_of RX10 [some (.ref x0), some (.int x1), some (.int x2), some (.int x3)] (by decide +kernel) rfl (Nat.le_of_ble_eq_true rfl) rfl (fun p l e s m args below meth c D ad tc A C => ?_)
  refine gj_iload_n C (pc' := 1) (i := 1) rfl dX10_put_0 rfl rfl ?_
  refine gj_callSi C (pc' := 4) rfl dX10_put_1 wm_X10_207 uX10_isSheet h (kX10_isSheet _ _) (by omega) rfl rfl (Nat.le_of_ble_eq_true rfl) (fun v1 w2 h => ?_)
  refine gj_if_ne C (pc' := 7) (tgt := 14) rfl dX10_put_4 rfl h (fun h => ?_) (fun h => ?_)
  · refine gj_aload_n C (pc' := 8) (i := 0) rfl dX10_put_7 rfl rfl ?_
    refine gj_ldc C (pc' := 10) rfl dX10_put_8 wk_X10_51 ?_
    refine gj_callVi C (pc' := 13) rfl dX10_put_10 wm_X10_52 uX10_errs h (kX10_errs _ _ _) (by omega) rfl rfl (Nat.le_of_ble_eq_true rfl) (fun v3 w4 h => ?_)
    exact gj_iret C dX10_put_13 h
  · refine gj_aload_n C (pc' := 15) (i := 0) rfl dX10_put_14 rfl rfl ?_
    refine gj_getR C (pc' := 18) rfl dX10_put_15 wf_X10_31 h (fun v5 h => ?_)
    refine gj_iload_n C (pc' := 19) (i := 1) rfl dX10_put_18 rfl rfl ?_
    refine gj_iald C (pc' := 20) rfl dX10_put_19 h (fun v6 h => ?_)
    refine gj_if_ne C (pc' := 23) (tgt := 30) rfl dX10_put_20 rfl h (fun h => ?_) (fun h => ?_)
    · refine gj_aload_n C (pc' := 24) (i := 0) rfl dX10_put_23 rfl rfl ?_
      refine gj_ldc C (pc' := 26) rfl dX10_put_24 wk_X10_182 ?_
      refine gj_callVi C (pc' := 29) rfl dX10_put_26 wm_X10_52 uX10_errs h (kX10_errs _ _ _) (by omega) rfl rfl (Nat.le_of_ble_eq_true rfl) (fun v7 w8 h => ?_)
      exact gj_iret C dX10_put_29 h
    · refine gj_iload_n C (pc' := 31) (i := 2) rfl dX10_put_30 rfl rfl ?_
      refine gj_iconst C (pc' := 32) (v := 0) rfl dX10_put_31 (by decide) ?_
      refine gj_aload_n C (pc' := 33) (i := 0) rfl dX10_put_32 rfl rfl ?_
      refine gj_getR C (pc' := 36) rfl dX10_put_33 wf_X10_34 h (fun v9 h => ?_)
      refine gj_iload_n C (pc' := 37) (i := 1) rfl dX10_put_36 rfl rfl ?_
      refine gj_iald C (pc' := 38) rfl dX10_put_37 h (fun v10 h => ?_)
      refine gj_iconst C (pc' := 39) (v := 1) rfl dX10_put_38 (by decide) ?_
      refine gj_isub C (pc' := 40) rfl dX10_put_39 ?_
      refine gj_callSi C (pc' := 43) rfl dX10_put_40 wm_X10_47 uX10_in h (kX10_in _ _ _ _) (by omega) rfl rfl (Nat.le_of_ble_eq_true rfl) (fun v11 w12 h => ?_)
      refine gj_if_ne C (pc' := 46) (tgt := 53) rfl dX10_put_43 rfl h (fun h => ?_) (fun h => ?_)
      · refine gj_aload_n C (pc' := 47) (i := 0) rfl dX10_put_46 rfl rfl ?_
        refine gj_ldc C (pc' := 49) rfl dX10_put_47 wk_X10_51 ?_
        refine gj_callVi C (pc' := 52) rfl dX10_put_49 wm_X10_52 uX10_errs h (kX10_errs _ _ _) (by omega) rfl rfl (Nat.le_of_ble_eq_true rfl) (fun v13 w14 h => ?_)
        exact gj_iret C dX10_put_52 h
      · refine gj_aload_n C (pc' := 54) (i := 0) rfl dX10_put_53 rfl rfl ?_
        refine gj_getR C (pc' := 57) rfl dX10_put_54 wf_X10_37 h (fun v15 h => ?_)
        refine gj_bipush C (pc' := 59) (v := 40) rfl dX10_put_57 (by decide) ?_
        refine gj_iload_n C (pc' := 60) (i := 1) rfl dX10_put_59 rfl rfl ?_
        refine gj_imul C (pc' := 61) rfl dX10_put_60 ?_
        refine gj_iload_n C (pc' := 62) (i := 2) rfl dX10_put_61 rfl rfl ?_
        refine gj_iadd C (pc' := 63) rfl dX10_put_62 ?_
        refine gj_aload_n C (pc' := 64) (i := 0) rfl dX10_put_63 rfl rfl ?_
        refine gj_getR C (pc' := 67) rfl dX10_put_64 wf_X10_31 h (fun v16 h => ?_)
        refine gj_iload_n C (pc' := 68) (i := 1) rfl dX10_put_67 rfl rfl ?_
        refine gj_iald C (pc' := 69) rfl dX10_put_68 h (fun v17 h => ?_)
        refine gj_iload_n C (pc' := 70) (i := 3) rfl dX10_put_69 rfl rfl ?_
        refine gj_callSi C (pc' := 73) rfl dX10_put_70 wm_X10_243 uX10_narrow h (kX10_narrow _ _ _) (by omega) rfl rfl (Nat.le_of_ble_eq_true rfl) (fun v18 w19 h => ?_)
        refine gj_iast C (pc' := 74) rfl dX10_put_73 h (fun w20 h => ?_)
        refine gj_iconst C (pc' := 75) (v := 1) rfl dX10_put_74 (by decide) ?_
        exact gj_iret C dX10_put_75 h
set_option maxHeartbeats 4000000 in
set_option maxRecDepth 100000 in
theorem kX10_move_14 {p : Program} {l : Launch} {e : Env} {s : State} {m : MethodId} {args : Array Value} {below : List Frame} {meth : Method} {c : Code} {D : va_G} {ad : Nat → Nat} {tc : Nat → ClassId} {A : Nat → Prop} (C : gj_C p s m args meth c D ad tc A cX10_move 7 (some .int) RX10) {r : Int32} {w1 : ab_W} {x0 : Nat} {w : ab_W} (h : sX10_move_14 x0 w = some (r, w1)) : gj_G p l e (gj_R 2) s m args below meth c D ad tc A 7 (gj_Qi D ad tc A below args s r w1) 14 [some (.ref x0), none, none, none, none, none, none] [] w := by
  unfold sX10_move_14 at h
  refine gj_aload_n C (pc' := 15) (i := 0) rfl dX10_move_14 rfl rfl ?_
  refine gj_ldc C (pc' := 17) rfl dX10_move_15 wk_X10_51 ?_
  refine gj_callVi C (pc' := 20) rfl dX10_move_17 wm_X10_52 uX10_errs h (kX10_errs _ _ _) (by omega) rfl rfl (Nat.le_of_ble_eq_true rfl) (fun v1 w2 h => ?_)
  exact gj_iret C dX10_move_20 h
set_option maxHeartbeats 4000000 in
set_option maxRecDepth 100000 in
theorem kX10_move_39 {p : Program} {l : Launch} {e : Env} {s : State} {m : MethodId} {args : Array Value} {below : List Frame} {meth : Method} {c : Code} {D : va_G} {ad : Nat → Nat} {tc : Nat → ClassId} {A : Nat → Prop} (C : gj_C p s m args meth c D ad tc A cX10_move 7 (some .int) RX10) {r : Int32} {w1 : ab_W} {x0 : Nat} {w : ab_W} (h : sX10_move_39 x0 w = some (r, w1)) : gj_G p l e (gj_R 2) s m args below meth c D ad tc A 7 (gj_Qi D ad tc A below args s r w1) 39 [some (.ref x0), none, none, none, none, none, none] [] w := by
  unfold sX10_move_39 at h
  refine gj_aload_n C (pc' := 40) (i := 0) rfl dX10_move_39 rfl rfl ?_
  refine gj_ldc C (pc' := 42) rfl dX10_move_40 wk_X10_182 ?_
  refine gj_callVi C (pc' := 45) rfl dX10_move_42 wm_X10_52 uX10_errs h (kX10_errs _ _ _) (by omega) rfl rfl (Nat.le_of_ble_eq_true rfl) (fun v1 w2 h => ?_)
  exact gj_iret C dX10_move_45 h
set_option maxHeartbeats 4000000 in
set_option maxRecDepth 100000 in
theorem kX10_move_109 {p : Program} {l : Launch} {e : Env} {s : State} {m : MethodId} {args : Array Value} {below : List Frame} {meth : Method} {c : Code} {D : va_G} {ad : Nat → Nat} {tc : Nat → ClassId} {A : Nat → Prop} (C : gj_C p s m args meth c D ad tc A cX10_move 7 (some .int) RX10) {r : Int32} {w1 : ab_W} {x0 : Nat} {w : ab_W} (h : sX10_move_109 x0 w = some (r, w1)) : gj_G p l e (gj_R 2) s m args below meth c D ad tc A 7 (gj_Qi D ad tc A below args s r w1) 109 [some (.ref x0), none, none, none, none, none, none] [] w := by
  unfold sX10_move_109 at h
  refine gj_aload_n C (pc' := 110) (i := 0) rfl dX10_move_109 rfl rfl ?_
  refine gj_ldc C (pc' := 112) rfl dX10_move_110 wk_X10_51 ?_
  refine gj_callVi C (pc' := 115) rfl dX10_move_112 wm_X10_52 uX10_errs h (kX10_errs _ _ _) (by omega) rfl rfl (Nat.le_of_ble_eq_true rfl) (fun v1 w2 h => ?_)
  exact gj_iret C dX10_move_115 h
set_option maxHeartbeats 4000000 in
set_option maxRecDepth 100000 in
theorem kX10_move_156 {p : Program} {l : Launch} {e : Env} {s : State} {m : MethodId} {args : Array Value} {below : List Frame} {meth : Method} {c : Code} {D : va_G} {ad : Nat → Nat} {tc : Nat → ClassId} {A : Nat → Prop} (C : gj_C p s m args meth c D ad tc A cX10_move 7 (some .int) RX10) {r : Int32} {w1 : ab_W} : ∀ {n : Nat} {x0 : Nat} {x3 : Int32} {x4 : Int32} {x5 : Int32} {x6 : Int32} {w : ab_W}, sX10_move_156 n x0 x3 x4 x5 x6 w = some (r, w1) → gj_G p l e (gj_R 2) s m args below meth c D ad tc A 7 (gj_Qi D ad tc A below args s r w1) 156 [some (.ref x0), none, none, some (.int x3), some (.int x4), some (.int x5), some (.int x6)] [] w := by
  intro n
  induction n with
  | zero =>
    intros
    rename_i h
    cases h
  | succ n ih =>
    intro x0 x3 x4 x5 x6 w h
    rw [sX10_move_156] at h
    refine gj_iload C (pc' := 158) (i := 6) rfl dX10_move_156 rfl ?_
    refine gj_iload C (pc' := 160) (i := 5) rfl dX10_move_158 rfl ?_
    refine gj_icmp_ge C (pc' := 163) (tgt := 191) rfl dX10_move_160 rfl h (fun h => ?_) (fun h => ?_)
    · refine gj_aload_n C (pc' := 164) (i := 0) rfl dX10_move_163 rfl rfl ?_
      refine gj_getR C (pc' := 167) rfl dX10_move_164 wf_X10_37 h (fun v1 h => ?_)
      refine gj_bipush C (pc' := 169) (v := 40) rfl dX10_move_167 (by decide) ?_
      refine gj_iload_n C (pc' := 170) (i := 3) rfl dX10_move_169 rfl rfl ?_
      refine gj_imul C (pc' := 171) rfl dX10_move_170 ?_
      refine gj_iload C (pc' := 173) (i := 4) rfl dX10_move_171 rfl ?_
      refine gj_iadd C (pc' := 174) rfl dX10_move_173 ?_
      refine gj_iload C (pc' := 176) (i := 6) rfl dX10_move_174 rfl ?_
      refine gj_iadd C (pc' := 177) rfl dX10_move_176 ?_
      refine gj_aload_n C (pc' := 178) (i := 0) rfl dX10_move_177 rfl rfl ?_
      refine gj_getR C (pc' := 181) rfl dX10_move_178 wf_X10_40 h (fun v2 h => ?_)
      refine gj_iload C (pc' := 183) (i := 6) rfl dX10_move_181 rfl ?_
      refine gj_iald C (pc' := 184) rfl dX10_move_183 h (fun v3 h => ?_)
      refine gj_iast C (pc' := 185) rfl dX10_move_184 h (fun w4 h => ?_)
      refine gj_iinc C (pc' := 188) (i := 6) (v := _ + 1) (lv' := [_, _, _, _, _, _, _]) rfl dX10_move_185 rfl rfl (by decide) rfl rfl ?_
      refine gj_goto C (tgt := 156) dX10_move_188 rfl ?_
      refine gj_drop (lv' := [some _, none, none, some _, some _, some _, some _]) (And.intro rfl (And.intro rfl (And.intro rfl (And.intro rfl (And.intro rfl True.intro))))) ?_
      exact ih h
    · refine gj_iload C (pc' := 193) (i := 5) rfl dX10_move_191 rfl ?_
      exact gj_iret C dX10_move_193 h
set_option maxHeartbeats 4000000 in
set_option maxRecDepth 100000 in
theorem kX10_move_119 {p : Program} {l : Launch} {e : Env} {s : State} {m : MethodId} {args : Array Value} {below : List Frame} {meth : Method} {c : Code} {D : va_G} {ad : Nat → Nat} {tc : Nat → ClassId} {A : Nat → Prop} (C : gj_C p s m args meth c D ad tc A cX10_move 7 (some .int) RX10) {r : Int32} {w1 : ab_W} : ∀ {n : Nat} {x0 : Nat} {x1 : Int32} {x2 : Int32} {x3 : Int32} {x4 : Int32} {x5 : Int32} {x6 : Int32} {w : ab_W}, sX10_move_119 n x0 x1 x2 x3 x4 x5 x6 w = some (r, w1) → gj_G p l e (gj_R 2) s m args below meth c D ad tc A 7 (gj_Qi D ad tc A below args s r w1) 119 [some (.ref x0), some (.int x1), some (.int x2), some (.int x3), some (.int x4), some (.int x5), some (.int x6)] [] w := by
  intro n
  induction n with
  | zero =>
    intros
    rename_i h
    cases h
  | succ n ih =>
    intro x0 x1 x2 x3 x4 x5 x6 w h
    rw [sX10_move_119] at h
    refine gj_iload C (pc' := 121) (i := 6) rfl dX10_move_119 rfl ?_
    refine gj_iload C (pc' := 123) (i := 5) rfl dX10_move_121 rfl ?_
    refine gj_icmp_ge C (pc' := 126) (tgt := 153) rfl dX10_move_123 rfl h (fun h => ?_) (fun h => ?_)
    · refine gj_aload_n C (pc' := 127) (i := 0) rfl dX10_move_126 rfl rfl ?_
      refine gj_getR C (pc' := 130) rfl dX10_move_127 wf_X10_40 h (fun v1 h => ?_)
      refine gj_iload C (pc' := 132) (i := 6) rfl dX10_move_130 rfl ?_
      refine gj_aload_n C (pc' := 133) (i := 0) rfl dX10_move_132 rfl rfl ?_
      refine gj_getR C (pc' := 136) rfl dX10_move_133 wf_X10_37 h (fun v2 h => ?_)
      refine gj_bipush C (pc' := 138) (v := 40) rfl dX10_move_136 (by decide) ?_
      refine gj_iload_n C (pc' := 139) (i := 1) rfl dX10_move_138 rfl rfl ?_
      refine gj_imul C (pc' := 140) rfl dX10_move_139 ?_
      refine gj_iload_n C (pc' := 141) (i := 2) rfl dX10_move_140 rfl rfl ?_
      refine gj_iadd C (pc' := 142) rfl dX10_move_141 ?_
      refine gj_iload C (pc' := 144) (i := 6) rfl dX10_move_142 rfl ?_
      refine gj_iadd C (pc' := 145) rfl dX10_move_144 ?_
      refine gj_iald C (pc' := 146) rfl dX10_move_145 h (fun v3 h => ?_)
      refine gj_iast C (pc' := 147) rfl dX10_move_146 h (fun w4 h => ?_)
      refine gj_iinc C (pc' := 150) (i := 6) (v := _ + 1) (lv' := [_, _, _, _, _, _, _]) rfl dX10_move_147 rfl rfl (by decide) rfl rfl ?_
      refine gj_goto C (tgt := 119) dX10_move_150 rfl ?_
      refine gj_drop (lv' := [some _, some _, some _, some _, some _, some _, some _]) (And.intro rfl (And.intro rfl (And.intro rfl (And.intro rfl (And.intro rfl (And.intro rfl (And.intro rfl True.intro))))))) ?_
      exact ih h
    · refine gj_iconst C (pc' := 154) (v := 0) rfl dX10_move_153 (by decide) ?_
      refine gj_istore C (pc' := 156) (i := 6) (lv' := [_, _, _, _, _, _, _]) rfl dX10_move_154 (by decide) rfl rfl ?_
      refine gj_drop (lv' := [some _, none, none, some _, some _, some _, some _]) (And.intro rfl (And.intro rfl (And.intro rfl (And.intro rfl (And.intro rfl True.intro))))) ?_
      exact kX10_move_156 C h
set_option maxHeartbeats 4000000 in
set_option maxRecDepth 100000 in
theorem kX10_move : ∀ (x0 : Nat) (x1 : Int32) (x2 : Int32) (x3 : Int32) (x4 : Int32) (x5 : Int32) (w : ab_W) (r : Int32) (w1 : ab_W), sX10_move x0 x1 x2 x3 x4 x5 w = some (r, w1) → gj_Mi yX10_move cX10_move 7 (some .int) 2 [.ref x0, .int x1, .int x2, .int x3, .int x4, .int x5] w r w1 ∧ ab_is w 10 x0 = true := by
  intro x0 x1 x2 x3 x4 x5 w r w1 h
  unfold sX10_move at h
  obtain ⟨hi, h⟩ := ab_ite h
  refine ⟨?_, hi⟩
  refine gj_Mi_of RX10 [some (.ref x0), some (.int x1), some (.int x2), some (.int x3), some (.int x4), some (.int x5), none] (by decide +kernel) rfl (Nat.le_of_ble_eq_true rfl) rfl (fun p l e s m args below meth c D ad tc A C => ?_)
  refine gj_iload_n C (pc' := 1) (i := 1) rfl dX10_move_0 rfl rfl ?_
  refine gj_callSi C (pc' := 4) rfl dX10_move_1 wm_X10_207 uX10_isSheet h (kX10_isSheet _ _) (by omega) rfl rfl (Nat.le_of_ble_eq_true rfl) (fun v1 w2 h => ?_)
  refine gj_if_eq C (pc' := 7) (tgt := 14) rfl dX10_move_4 rfl h (fun h => ?_) (fun h => ?_)
  · refine gj_drop (lv' := [some _, none, none, none, none, none, none]) (And.intro rfl True.intro) ?_
    exact kX10_move_14 C h
  · refine gj_iload_n C (pc' := 8) (i := 3) rfl dX10_move_7 rfl rfl ?_
    refine gj_callSi C (pc' := 11) rfl dX10_move_8 wm_X10_207 uX10_isSheet h (kX10_isSheet _ _) (by omega) rfl rfl (Nat.le_of_ble_eq_true rfl) (fun v3 w4 h => ?_)
    refine gj_if_ne C (pc' := 14) (tgt := 21) rfl dX10_move_11 rfl h (fun h => ?_) (fun h => ?_)
    · refine gj_drop (lv' := [some _, none, none, none, none, none, none]) (And.intro rfl True.intro) ?_
      exact kX10_move_14 C h
    · refine gj_aload_n C (pc' := 22) (i := 0) rfl dX10_move_21 rfl rfl ?_
      refine gj_getR C (pc' := 25) rfl dX10_move_22 wf_X10_31 h (fun v5 h => ?_)
      refine gj_iload_n C (pc' := 26) (i := 1) rfl dX10_move_25 rfl rfl ?_
      refine gj_iald C (pc' := 27) rfl dX10_move_26 h (fun v6 h => ?_)
      refine gj_if_eq C (pc' := 30) (tgt := 39) rfl dX10_move_27 rfl h (fun h => ?_) (fun h => ?_)
      · refine gj_drop (lv' := [some _, none, none, none, none, none, none]) (And.intro rfl True.intro) ?_
        exact kX10_move_39 C h
      · refine gj_aload_n C (pc' := 31) (i := 0) rfl dX10_move_30 rfl rfl ?_
        refine gj_getR C (pc' := 34) rfl dX10_move_31 wf_X10_31 h (fun v7 h => ?_)
        refine gj_iload_n C (pc' := 35) (i := 3) rfl dX10_move_34 rfl rfl ?_
        refine gj_iald C (pc' := 36) rfl dX10_move_35 h (fun v8 h => ?_)
        refine gj_if_ne C (pc' := 39) (tgt := 46) rfl dX10_move_36 rfl h (fun h => ?_) (fun h => ?_)
        · refine gj_drop (lv' := [some _, none, none, none, none, none, none]) (And.intro rfl True.intro) ?_
          exact kX10_move_39 C h
        · refine gj_aload_n C (pc' := 47) (i := 0) rfl dX10_move_46 rfl rfl ?_
          refine gj_getR C (pc' := 50) rfl dX10_move_47 wf_X10_31 h (fun v9 h => ?_)
          refine gj_iload_n C (pc' := 51) (i := 1) rfl dX10_move_50 rfl rfl ?_
          refine gj_iald C (pc' := 52) rfl dX10_move_51 h (fun v10 h => ?_)
          refine gj_aload_n C (pc' := 53) (i := 0) rfl dX10_move_52 rfl rfl ?_
          refine gj_getR C (pc' := 56) rfl dX10_move_53 wf_X10_31 h (fun v11 h => ?_)
          refine gj_iload_n C (pc' := 57) (i := 3) rfl dX10_move_56 rfl rfl ?_
          refine gj_iald C (pc' := 58) rfl dX10_move_57 h (fun v12 h => ?_)
          refine gj_icmp_eq C (pc' := 61) (tgt := 68) rfl dX10_move_58 rfl h (fun h => ?_) (fun h => ?_)
          · refine gj_iload C (pc' := 70) (i := 5) rfl dX10_move_68 rfl ?_
            refine gj_if_lt C (pc' := 73) (tgt := 109) rfl dX10_move_70 rfl h (fun h => ?_) (fun h => ?_)
            · refine gj_drop (lv' := [some _, none, none, none, none, none, none]) (And.intro rfl True.intro) ?_
              exact kX10_move_109 C h
            · refine gj_iload_n C (pc' := 74) (i := 2) rfl dX10_move_73 rfl rfl ?_
              refine gj_if_lt C (pc' := 77) (tgt := 109) rfl dX10_move_74 rfl h (fun h => ?_) (fun h => ?_)
              · refine gj_drop (lv' := [some _, none, none, none, none, none, none]) (And.intro rfl True.intro) ?_
                exact kX10_move_109 C h
              · refine gj_iload C (pc' := 79) (i := 4) rfl dX10_move_77 rfl ?_
                refine gj_if_lt C (pc' := 82) (tgt := 109) rfl dX10_move_79 rfl h (fun h => ?_) (fun h => ?_)
                · refine gj_drop (lv' := [some _, none, none, none, none, none, none]) (And.intro rfl True.intro) ?_
                  exact kX10_move_109 C h
                · refine gj_iload_n C (pc' := 83) (i := 2) rfl dX10_move_82 rfl rfl ?_
                  refine gj_aload_n C (pc' := 84) (i := 0) rfl dX10_move_83 rfl rfl ?_
                  refine gj_getR C (pc' := 87) rfl dX10_move_84 wf_X10_34 h (fun v13 h => ?_)
                  refine gj_iload_n C (pc' := 88) (i := 1) rfl dX10_move_87 rfl rfl ?_
                  refine gj_iald C (pc' := 89) rfl dX10_move_88 h (fun v14 h => ?_)
                  refine gj_iload C (pc' := 91) (i := 5) rfl dX10_move_89 rfl ?_
                  refine gj_isub C (pc' := 92) rfl dX10_move_91 ?_
                  refine gj_icmp_gt C (pc' := 95) (tgt := 109) rfl dX10_move_92 rfl h (fun h => ?_) (fun h => ?_)
                  · refine gj_drop (lv' := [some _, none, none, none, none, none, none]) (And.intro rfl True.intro) ?_
                    exact kX10_move_109 C h
                  · refine gj_iload C (pc' := 97) (i := 4) rfl dX10_move_95 rfl ?_
                    refine gj_aload_n C (pc' := 98) (i := 0) rfl dX10_move_97 rfl rfl ?_
                    refine gj_getR C (pc' := 101) rfl dX10_move_98 wf_X10_34 h (fun v15 h => ?_)
                    refine gj_iload_n C (pc' := 102) (i := 3) rfl dX10_move_101 rfl rfl ?_
                    refine gj_iald C (pc' := 103) rfl dX10_move_102 h (fun v16 h => ?_)
                    refine gj_iload C (pc' := 105) (i := 5) rfl dX10_move_103 rfl ?_
                    refine gj_isub C (pc' := 106) rfl dX10_move_105 ?_
                    refine gj_icmp_le C (pc' := 109) (tgt := 116) rfl dX10_move_106 rfl h (fun h => ?_) (fun h => ?_)
                    · refine gj_drop (lv' := [some _, none, none, none, none, none, none]) (And.intro rfl True.intro) ?_
                      exact kX10_move_109 C h
                    · refine gj_iconst C (pc' := 117) (v := 0) rfl dX10_move_116 (by decide) ?_
                      refine gj_istore C (pc' := 119) (i := 6) (lv' := [_, _, _, _, _, _, _]) rfl dX10_move_117 (by decide) rfl rfl ?_
                      refine gj_drop (lv' := [some _, some _, some _, some _, some _, some _, some _]) (And.intro rfl (And.intro rfl (And.intro rfl (And.intro rfl (And.intro rfl (And.intro rfl (And.intro rfl True.intro))))))) ?_
                      exact kX10_move_119 C h
          · refine gj_aload_n C (pc' := 62) (i := 0) rfl dX10_move_61 rfl rfl ?_
            refine gj_ldc C (pc' := 64) rfl dX10_move_62 wk_X10_88 ?_
            refine gj_callVi C (pc' := 67) rfl dX10_move_64 wm_X10_52 uX10_errs h (kX10_errs _ _ _) (by omega) rfl rfl (Nat.le_of_ble_eq_true rfl) (fun v17 w18 h => ?_)
            exact gj_iret C dX10_move_67 h
set_option maxHeartbeats 4000000 in
set_option maxRecDepth 100000 in
theorem kX10_debts_32 {p : Program} {l : Launch} {e : Env} {s : State} {m : MethodId} {args : Array Value} {below : List Frame} {meth : Method} {c : Code} {D : va_G} {ad : Nat → Nat} {tc : Nat → ClassId} {A : Nat → Prop} (C : gj_C p s m args meth c D ad tc A cX10_debts 3 (some .int) RX10) {r : Int32} {w1 : ab_W} : ∀ {n : Nat} {x0 : Nat} {x1 : Int32} {x2 : Int32} {w : ab_W}, sX10_debts_32 n x0 x1 x2 w = some (r, w1) → gj_G p l e (gj_R 2) s m args below meth c D ad tc A 3 (gj_Qi D ad tc A below args s r w1) 32 [some (.ref x0), some (.int x1), some (.int x2)] [] w := by
  intro n
  induction n with
  | zero =>
    intros
    rename_i h
    cases h
  | succ n ih =>
    intro x0 x1 x2 w h
    rw [sX10_debts_32] at h
    refine gj_iload_n C (pc' := 33) (i := 2) rfl dX10_debts_32 rfl rfl ?_
    refine gj_aload_n C (pc' := 34) (i := 0) rfl dX10_debts_33 rfl rfl ?_
    refine gj_getR C (pc' := 37) rfl dX10_debts_34 wf_X10_34 h (fun v1 h => ?_)
    refine gj_iload_n C (pc' := 38) (i := 1) rfl dX10_debts_37 rfl rfl ?_
    refine gj_iald C (pc' := 39) rfl dX10_debts_38 h (fun v2 h => ?_)
    refine gj_icmp_ge C (pc' := 42) (tgt := 94) rfl dX10_debts_39 rfl h (fun h => ?_) (fun h => ?_)
    · refine gj_aload_n C (pc' := 43) (i := 0) rfl dX10_debts_42 rfl rfl ?_
      refine gj_iload_n C (pc' := 44) (i := 2) rfl dX10_debts_43 rfl rfl ?_
      refine gj_callVi C (pc' := 47) rfl dX10_debts_44 wm_X10_61 uX10_isPaper h (kX10_isPaper _ _ _) (by omega) rfl rfl (Nat.le_of_ble_eq_true rfl) (fun v3 w4 h => ?_)
      refine gj_if_eq C (pc' := 50) (tgt := 94) rfl dX10_debts_47 rfl h (fun h => ?_) (fun h => ?_)
      · refine gj_iload_n C (pc' := 95) (i := 2) rfl dX10_debts_94 rfl rfl ?_
        exact gj_iret C dX10_debts_95 h
      · refine gj_aload_n C (pc' := 51) (i := 0) rfl dX10_debts_50 rfl rfl ?_
        refine gj_getR C (pc' := 54) rfl dX10_debts_51 wf_X10_37 h (fun v5 h => ?_)
        refine gj_bipush C (pc' := 56) (v := 40) rfl dX10_debts_54 (by decide) ?_
        refine gj_iload_n C (pc' := 57) (i := 1) rfl dX10_debts_56 rfl rfl ?_
        refine gj_imul C (pc' := 58) rfl dX10_debts_57 ?_
        refine gj_iload_n C (pc' := 59) (i := 2) rfl dX10_debts_58 rfl rfl ?_
        refine gj_iadd C (pc' := 60) rfl dX10_debts_59 ?_
        refine gj_iald C (pc' := 61) rfl dX10_debts_60 h (fun v6 h => ?_)
        refine gj_iconst C (pc' := 62) (v := 0) rfl dX10_debts_61 (by decide) ?_
        refine gj_sipush C (pc' := 65) (v := 9999) rfl dX10_debts_62 (by decide) ?_
        refine gj_callSi C (pc' := 68) rfl dX10_debts_65 wm_X10_47 uX10_in h (kX10_in _ _ _ _) (by omega) rfl rfl (Nat.le_of_ble_eq_true rfl) (fun v7 w8 h => ?_)
        refine gj_if_eq C (pc' := 71) (tgt := 94) rfl dX10_debts_68 rfl h (fun h => ?_) (fun h => ?_)
        · refine gj_iload_n C (pc' := 95) (i := 2) rfl dX10_debts_94 rfl rfl ?_
          exact gj_iret C dX10_debts_95 h
        · refine gj_aload_n C (pc' := 72) (i := 0) rfl dX10_debts_71 rfl rfl ?_
          refine gj_iload_n C (pc' := 73) (i := 2) rfl dX10_debts_72 rfl rfl ?_
          refine gj_iconst C (pc' := 74) (v := 2) rfl dX10_debts_73 (by decide) ?_
          refine gj_aload_n C (pc' := 75) (i := 0) rfl dX10_debts_74 rfl rfl ?_
          refine gj_getR C (pc' := 78) rfl dX10_debts_75 wf_X10_37 h (fun v9 h => ?_)
          refine gj_bipush C (pc' := 80) (v := 40) rfl dX10_debts_78 (by decide) ?_
          refine gj_iload_n C (pc' := 81) (i := 1) rfl dX10_debts_80 rfl rfl ?_
          refine gj_imul C (pc' := 82) rfl dX10_debts_81 ?_
          refine gj_iload_n C (pc' := 83) (i := 2) rfl dX10_debts_82 rfl rfl ?_
          refine gj_iadd C (pc' := 84) rfl dX10_debts_83 ?_
          refine gj_iald C (pc' := 85) rfl dX10_debts_84 h (fun v10 h => ?_)
          refine gj_callVv C (pc' := 88) rfl dX10_debts_85 wm_X10_57 uX10_gets h (kX10_gets _ _ _ _ _) (by omega) rfl rfl (Nat.le_of_ble_eq_true rfl) (fun w11 h => ?_)
          refine gj_iinc C (pc' := 91) (i := 2) (v := _ + 1) (lv' := [_, _, _]) rfl dX10_debts_88 rfl rfl (by decide) rfl rfl ?_
          refine gj_goto C (tgt := 32) dX10_debts_91 rfl ?_
          refine gj_drop (lv' := [some _, some _, some _]) (And.intro rfl (And.intro rfl (And.intro rfl True.intro))) ?_
          exact ih h
    · refine gj_iload_n C (pc' := 95) (i := 2) rfl dX10_debts_94 rfl rfl ?_
      exact gj_iret C dX10_debts_95 h
set_option maxHeartbeats 4000000 in
set_option maxRecDepth 100000 in
theorem kX10_debts : ∀ (x0 : Nat) (x1 : Int32) (w : ab_W) (r : Int32) (w1 : ab_W), sX10_debts x0 x1 w = some (r, w1) → gj_Mi yX10_debts cX10_debts 3 (some .int) 2 [.ref x0, .int x1] w r w1 ∧ ab_is w 10 x0 = true := by
  intro x0 x1 w r w1 h
  unfold sX10_debts at h
  obtain ⟨hi, h⟩ := ab_ite h
  refine ⟨?_, hi⟩
  refine gj_Mi_of RX10 [some (.ref x0), some (.int x1), none] (by decide +kernel) rfl (Nat.le_of_ble_eq_true rfl) rfl (fun p l e s m args below meth c D ad tc A C => ?_)
  refine gj_iload_n C (pc' := 1) (i := 1) rfl dX10_debts_0 rfl rfl ?_
  refine gj_callSi C (pc' := 4) rfl dX10_debts_1 wm_X10_207 uX10_isSheet h (kX10_isSheet _ _) (by omega) rfl rfl (Nat.le_of_ble_eq_true rfl) (fun v1 w2 h => ?_)
  refine gj_if_ne C (pc' := 7) (tgt := 14) rfl dX10_debts_4 rfl h (fun h => ?_) (fun h => ?_)
  · refine gj_aload_n C (pc' := 8) (i := 0) rfl dX10_debts_7 rfl rfl ?_
    refine gj_ldc C (pc' := 10) rfl dX10_debts_8 wk_X10_51 ?_
    refine gj_callVi C (pc' := 13) rfl dX10_debts_10 wm_X10_52 uX10_errs h (kX10_errs _ _ _) (by omega) rfl rfl (Nat.le_of_ble_eq_true rfl) (fun v3 w4 h => ?_)
    exact gj_iret C dX10_debts_13 h
  · refine gj_aload_n C (pc' := 15) (i := 0) rfl dX10_debts_14 rfl rfl ?_
    refine gj_getR C (pc' := 18) rfl dX10_debts_15 wf_X10_31 h (fun v5 h => ?_)
    refine gj_iload_n C (pc' := 19) (i := 1) rfl dX10_debts_18 rfl rfl ?_
    refine gj_iald C (pc' := 20) rfl dX10_debts_19 h (fun v6 h => ?_)
    refine gj_if_ne C (pc' := 23) (tgt := 30) rfl dX10_debts_20 rfl h (fun h => ?_) (fun h => ?_)
    · refine gj_aload_n C (pc' := 24) (i := 0) rfl dX10_debts_23 rfl rfl ?_
      refine gj_ldc C (pc' := 26) rfl dX10_debts_24 wk_X10_182 ?_
      refine gj_callVi C (pc' := 29) rfl dX10_debts_26 wm_X10_52 uX10_errs h (kX10_errs _ _ _) (by omega) rfl rfl (Nat.le_of_ble_eq_true rfl) (fun v7 w8 h => ?_)
      exact gj_iret C dX10_debts_29 h
    · refine gj_iconst C (pc' := 31) (v := 0) rfl dX10_debts_30 (by decide) ?_
      refine gj_istore_n C (pc' := 32) (i := 2) (lv' := [_, _, _]) rfl dX10_debts_31 rfl (by decide) rfl rfl ?_
      refine gj_drop (lv' := [some _, some _, some _]) (And.intro rfl (And.intro rfl (And.intro rfl True.intro))) ?_
      exact kX10_debts_32 C h
set_option maxHeartbeats 4000000 in
set_option maxRecDepth 100000 in
theorem kX10_judge_78 {p : Program} {l : Launch} {e : Env} {s : State} {m : MethodId} {args : Array Value} {below : List Frame} {meth : Method} {c : Code} {D : va_G} {ad : Nat → Nat} {tc : Nat → ClassId} {A : Nat → Prop} (C : gj_C p s m args meth c D ad tc A cX10_judge 3 (some .int) RX10) {r : Int32} {w1 : ab_W} {x0 : Nat} {x1 : Int32} {x2 : Int32} {w : ab_W} (h : sX10_judge_78 x0 x1 x2 w = some (r, w1)) : gj_G p l e (gj_R 2) s m args below meth c D ad tc A 3 (gj_Qi D ad tc A below args s r w1) 78 [some (.ref x0), some (.int x1), some (.int x2)] [] w := by
  unfold sX10_judge_78 at h
  refine gj_iload_n C (pc' := 79) (i := 2) rfl dX10_judge_78 rfl rfl ?_
  refine gj_aload_n C (pc' := 80) (i := 0) rfl dX10_judge_79 rfl rfl ?_
  refine gj_getR C (pc' := 83) rfl dX10_judge_80 wf_X10_7 h (fun v1 h => ?_)
  refine gj_iconst C (pc' := 84) (v := 2) rfl dX10_judge_83 (by decide) ?_
  refine gj_iald C (pc' := 85) rfl dX10_judge_84 h (fun v2 h => ?_)
  refine gj_icmp_ne C (pc' := 88) (tgt := 102) rfl dX10_judge_85 rfl h (fun h => ?_) (fun h => ?_)
  · refine gj_iload_n C (pc' := 89) (i := 2) rfl dX10_judge_88 rfl rfl ?_
    refine gj_aload_n C (pc' := 90) (i := 0) rfl dX10_judge_89 rfl rfl ?_
    refine gj_getR C (pc' := 93) rfl dX10_judge_90 wf_X10_34 h (fun v3 h => ?_)
    refine gj_iload_n C (pc' := 94) (i := 1) rfl dX10_judge_93 rfl rfl ?_
    refine gj_iald C (pc' := 95) rfl dX10_judge_94 h (fun v4 h => ?_)
    refine gj_icmp_ne C (pc' := 98) (tgt := 102) rfl dX10_judge_95 rfl h (fun h => ?_) (fun h => ?_)
    · refine gj_iconst C (pc' := 99) (v := (-1)) rfl dX10_judge_98 (by decide) ?_
      refine gj_goto C (tgt := 103) dX10_judge_99 rfl ?_
      exact gj_iret C dX10_judge_103 h
    · refine gj_iload_n C (pc' := 103) (i := 2) rfl dX10_judge_102 rfl rfl ?_
      exact gj_iret C dX10_judge_103 h
  · refine gj_iload_n C (pc' := 103) (i := 2) rfl dX10_judge_102 rfl rfl ?_
    exact gj_iret C dX10_judge_103 h
set_option maxHeartbeats 4000000 in
set_option maxRecDepth 100000 in
theorem kX10_judge_32 {p : Program} {l : Launch} {e : Env} {s : State} {m : MethodId} {args : Array Value} {below : List Frame} {meth : Method} {c : Code} {D : va_G} {ad : Nat → Nat} {tc : Nat → ClassId} {A : Nat → Prop} (C : gj_C p s m args meth c D ad tc A cX10_judge 3 (some .int) RX10) {r : Int32} {w1 : ab_W} : ∀ {n : Nat} {x0 : Nat} {x1 : Int32} {x2 : Int32} {w : ab_W}, sX10_judge_32 n x0 x1 x2 w = some (r, w1) → gj_G p l e (gj_R 2) s m args below meth c D ad tc A 3 (gj_Qi D ad tc A below args s r w1) 32 [some (.ref x0), some (.int x1), some (.int x2)] [] w := by
  intro n
  induction n with
  | zero =>
    intros
    rename_i h
    cases h
  | succ n ih =>
    intro x0 x1 x2 w h
    rw [sX10_judge_32] at h
    refine gj_iload_n C (pc' := 33) (i := 2) rfl dX10_judge_32 rfl rfl ?_
    refine gj_aload_n C (pc' := 34) (i := 0) rfl dX10_judge_33 rfl rfl ?_
    refine gj_getR C (pc' := 37) rfl dX10_judge_34 wf_X10_7 h (fun v1 h => ?_)
    refine gj_iconst C (pc' := 38) (v := 2) rfl dX10_judge_37 (by decide) ?_
    refine gj_iald C (pc' := 39) rfl dX10_judge_38 h (fun v2 h => ?_)
    refine gj_icmp_ge C (pc' := 42) (tgt := 78) rfl dX10_judge_39 rfl h (fun h => ?_) (fun h => ?_)
    · refine gj_iload_n C (pc' := 43) (i := 2) rfl dX10_judge_42 rfl rfl ?_
      refine gj_aload_n C (pc' := 44) (i := 0) rfl dX10_judge_43 rfl rfl ?_
      refine gj_getR C (pc' := 47) rfl dX10_judge_44 wf_X10_34 h (fun v3 h => ?_)
      refine gj_iload_n C (pc' := 48) (i := 1) rfl dX10_judge_47 rfl rfl ?_
      refine gj_iald C (pc' := 49) rfl dX10_judge_48 h (fun v4 h => ?_)
      refine gj_icmp_ge C (pc' := 52) (tgt := 78) rfl dX10_judge_49 rfl h (fun h => ?_) (fun h => ?_)
      · refine gj_aload_n C (pc' := 53) (i := 0) rfl dX10_judge_52 rfl rfl ?_
        refine gj_getR C (pc' := 56) rfl dX10_judge_53 wf_X10_37 h (fun v5 h => ?_)
        refine gj_bipush C (pc' := 58) (v := 40) rfl dX10_judge_56 (by decide) ?_
        refine gj_iload_n C (pc' := 59) (i := 1) rfl dX10_judge_58 rfl rfl ?_
        refine gj_imul C (pc' := 60) rfl dX10_judge_59 ?_
        refine gj_iload_n C (pc' := 61) (i := 2) rfl dX10_judge_60 rfl rfl ?_
        refine gj_iadd C (pc' := 62) rfl dX10_judge_61 ?_
        refine gj_iald C (pc' := 63) rfl dX10_judge_62 h (fun v6 h => ?_)
        refine gj_aload_n C (pc' := 64) (i := 0) rfl dX10_judge_63 rfl rfl ?_
        refine gj_iload_n C (pc' := 65) (i := 2) rfl dX10_judge_64 rfl rfl ?_
        refine gj_iconst C (pc' := 66) (v := 3) rfl dX10_judge_65 (by decide) ?_
        refine gj_callVi C (pc' := 69) rfl dX10_judge_66 wm_X10_65 uX10_its h (kX10_its _ _ _ _) (by omega) rfl rfl (Nat.le_of_ble_eq_true rfl) (fun v7 w8 h => ?_)
        refine gj_icmp_ne C (pc' := 72) (tgt := 78) rfl dX10_judge_69 rfl h (fun h => ?_) (fun h => ?_)
        · refine gj_iinc C (pc' := 75) (i := 2) (v := _ + 1) (lv' := [_, _, _]) rfl dX10_judge_72 rfl rfl (by decide) rfl rfl ?_
          refine gj_goto C (tgt := 32) dX10_judge_75 rfl ?_
          refine gj_drop (lv' := [some _, some _, some _]) (And.intro rfl (And.intro rfl (And.intro rfl True.intro))) ?_
          exact ih h
        · refine gj_drop (lv' := [some _, some _, some _]) (And.intro rfl (And.intro rfl (And.intro rfl True.intro))) ?_
          exact kX10_judge_78 C h
      · refine gj_drop (lv' := [some _, some _, some _]) (And.intro rfl (And.intro rfl (And.intro rfl True.intro))) ?_
        exact kX10_judge_78 C h
    · refine gj_drop (lv' := [some _, some _, some _]) (And.intro rfl (And.intro rfl (And.intro rfl True.intro))) ?_
      exact kX10_judge_78 C h
set_option maxHeartbeats 4000000 in
set_option maxRecDepth 100000 in
theorem kX10_judge : ∀ (x0 : Nat) (x1 : Int32) (w : ab_W) (r : Int32) (w1 : ab_W), sX10_judge x0 x1 w = some (r, w1) → gj_Mi yX10_judge cX10_judge 3 (some .int) 2 [.ref x0, .int x1] w r w1 ∧ ab_is w 10 x0 = true := by
  intro x0 x1 w r w1 h
  unfold sX10_judge at h
  obtain ⟨hi, h⟩ := ab_ite h
  refine ⟨?_, hi⟩
  refine gj_Mi_of RX10 [some (.ref x0), some (.int x1), none] (by decide +kernel) rfl (Nat.le_of_ble_eq_true rfl) rfl (fun p l e s m args below meth c D ad tc A C => ?_)
  refine gj_iload_n C (pc' := 1) (i := 1) rfl dX10_judge_0 rfl rfl ?_
  refine gj_callSi C (pc' := 4) rfl dX10_judge_1 wm_X10_207 uX10_isSheet h (kX10_isSheet _ _) (by omega) rfl rfl (Nat.le_of_ble_eq_true rfl) (fun v1 w2 h => ?_)
  refine gj_if_ne C (pc' := 7) (tgt := 14) rfl dX10_judge_4 rfl h (fun h => ?_) (fun h => ?_)
  · refine gj_aload_n C (pc' := 8) (i := 0) rfl dX10_judge_7 rfl rfl ?_
    refine gj_ldc C (pc' := 10) rfl dX10_judge_8 wk_X10_51 ?_
    refine gj_callVi C (pc' := 13) rfl dX10_judge_10 wm_X10_52 uX10_errs h (kX10_errs _ _ _) (by omega) rfl rfl (Nat.le_of_ble_eq_true rfl) (fun v3 w4 h => ?_)
    exact gj_iret C dX10_judge_13 h
  · refine gj_aload_n C (pc' := 15) (i := 0) rfl dX10_judge_14 rfl rfl ?_
    refine gj_getR C (pc' := 18) rfl dX10_judge_15 wf_X10_31 h (fun v5 h => ?_)
    refine gj_iload_n C (pc' := 19) (i := 1) rfl dX10_judge_18 rfl rfl ?_
    refine gj_iald C (pc' := 20) rfl dX10_judge_19 h (fun v6 h => ?_)
    refine gj_if_ne C (pc' := 23) (tgt := 30) rfl dX10_judge_20 rfl h (fun h => ?_) (fun h => ?_)
    · refine gj_aload_n C (pc' := 24) (i := 0) rfl dX10_judge_23 rfl rfl ?_
      refine gj_ldc C (pc' := 26) rfl dX10_judge_24 wk_X10_182 ?_
      refine gj_callVi C (pc' := 29) rfl dX10_judge_26 wm_X10_52 uX10_errs h (kX10_errs _ _ _) (by omega) rfl rfl (Nat.le_of_ble_eq_true rfl) (fun v7 w8 h => ?_)
      exact gj_iret C dX10_judge_29 h
    · refine gj_iconst C (pc' := 31) (v := 0) rfl dX10_judge_30 (by decide) ?_
      refine gj_istore_n C (pc' := 32) (i := 2) (lv' := [_, _, _]) rfl dX10_judge_31 rfl (by decide) rfl rfl ?_
      refine gj_drop (lv' := [some _, some _, some _]) (And.intro rfl (And.intro rfl (And.intro rfl True.intro))) ?_
      exact kX10_judge_32 C h
set_option maxHeartbeats 4000000 in
set_option maxRecDepth 100000 in
theorem kX10_image : ∀ (x0 : Nat) (w : ab_W) (r : Int32) (w1 : ab_W), sX10_image x0 w = some (r, w1) → gj_Mi yX10_image cX10_image 1 (some .int) 1 [.ref x0] w r w1 ∧ ab_is w 10 x0 = true := by
  intro x0 w r w1 h
  unfold sX10_image at h
  obtain ⟨hi, h⟩ := ab_ite h
  refine ⟨?_, hi⟩
  refine gj_Mi_of RX10 [some (.ref x0)] (by decide +kernel) rfl (Nat.le_of_ble_eq_true rfl) rfl (fun p l e s m args below meth c D ad tc A C => ?_)
  refine gj_aload_n C (pc' := 1) (i := 0) rfl dX10_image_0 rfl rfl ?_
  refine gj_aload_n C (pc' := 2) (i := 0) rfl dX10_image_1 rfl rfl ?_
  refine gj_getR C (pc' := 5) rfl dX10_image_2 wf_X10_7 h (fun v1 h => ?_)
  refine gj_aload_n C (pc' := 6) (i := 0) rfl dX10_image_5 rfl rfl ?_
  refine gj_getR C (pc' := 9) rfl dX10_image_6 wf_X10_13 h (fun v2 h => ?_)
  refine gj_callVv C (pc' := 12) rfl dX10_image_9 wm_X10_162 uX10_moveAll h (kX10_moveAll _ _ _ _) (by omega) rfl rfl (Nat.le_of_ble_eq_true rfl) (fun w3 h => ?_)
  refine gj_aload_n C (pc' := 13) (i := 0) rfl dX10_image_12 rfl rfl ?_
  refine gj_iconst C (pc' := 14) (v := 1) rfl dX10_image_13 (by decide) ?_
  refine gj_putZ C (pc' := 17) (ty := .int) rfl dX10_image_14 wf_X10_246 wp_X10_4 rfl h (fun w4 h => ?_)
  refine gj_aload_n C (pc' := 18) (i := 0) rfl dX10_image_17 rfl rfl ?_
  refine gj_dup C (pc' := 19) rfl dX10_image_18 rfl ?_
  refine gj_getI C (pc' := 22) rfl dX10_image_19 wf_X10_249 h (fun v5 h => ?_)
  refine gj_iconst C (pc' := 23) (v := 1) rfl dX10_image_22 (by decide) ?_
  refine gj_iadd C (pc' := 24) rfl dX10_image_23 ?_
  refine gj_putI C (pc' := 27) (ty := .int) rfl dX10_image_24 wf_X10_249 wp_X10_5 rfl h (fun w6 h => ?_)
  refine gj_aload_n C (pc' := 28) (i := 0) rfl dX10_image_27 rfl rfl ?_
  refine gj_getI C (pc' := 31) rfl dX10_image_28 wf_X10_249 h (fun v7 h => ?_)
  exact gj_iret C dX10_image_31 h
set_option maxHeartbeats 4000000 in
set_option maxRecDepth 100000 in
theorem kX10_restore : ∀ (x0 : Nat) (w : ab_W) (r : Int32) (w1 : ab_W), sX10_restore x0 w = some (r, w1) → gj_Mi yX10_restore cX10_restore 1 (some .int) 1 [.ref x0] w r w1 ∧ ab_is w 10 x0 = true := by
  intro x0 w r w1 h
  unfold sX10_restore at h
  obtain ⟨hi, h⟩ := ab_ite h
  refine ⟨?_, hi⟩
  refine gj_Mi_of RX10 [some (.ref x0)] (by decide +kernel) rfl (Nat.le_of_ble_eq_true rfl) rfl (fun p l e s m args below meth c D ad tc A C => ?_)
  refine gj_aload_n C (pc' := 1) (i := 0) rfl dX10_restore_0 rfl rfl ?_
  refine gj_getI C (pc' := 4) rfl dX10_restore_1 wf_X10_246 h (fun v1 h => ?_)
  refine gj_if_ne C (pc' := 7) (tgt := 14) rfl dX10_restore_4 rfl h (fun h => ?_) (fun h => ?_)
  · refine gj_aload_n C (pc' := 8) (i := 0) rfl dX10_restore_7 rfl rfl ?_
    refine gj_ldc C (pc' := 10) rfl dX10_restore_8 wk_X10_182 ?_
    refine gj_callVi C (pc' := 13) rfl dX10_restore_10 wm_X10_52 uX10_errs h (kX10_errs _ _ _) (by omega) rfl rfl (Nat.le_of_ble_eq_true rfl) (fun v2 w3 h => ?_)
    exact gj_iret C dX10_restore_13 h
  · refine gj_aload_n C (pc' := 15) (i := 0) rfl dX10_restore_14 rfl rfl ?_
    refine gj_aload_n C (pc' := 16) (i := 0) rfl dX10_restore_15 rfl rfl ?_
    refine gj_getR C (pc' := 19) rfl dX10_restore_16 wf_X10_13 h (fun v4 h => ?_)
    refine gj_aload_n C (pc' := 20) (i := 0) rfl dX10_restore_19 rfl rfl ?_
    refine gj_getR C (pc' := 23) rfl dX10_restore_20 wf_X10_7 h (fun v5 h => ?_)
    refine gj_callVv C (pc' := 26) rfl dX10_restore_23 wm_X10_162 uX10_moveAll h (kX10_moveAll _ _ _ _) (by omega) rfl rfl (Nat.le_of_ble_eq_true rfl) (fun w6 h => ?_)
    refine gj_aload_n C (pc' := 27) (i := 0) rfl dX10_restore_26 rfl rfl ?_
    refine gj_getR C (pc' := 30) rfl dX10_restore_27 wf_X10_7 h (fun v7 h => ?_)
    refine gj_iconst C (pc' := 31) (v := 0) rfl dX10_restore_30 (by decide) ?_
    refine gj_iald C (pc' := 32) rfl dX10_restore_31 h (fun v8 h => ?_)
    exact gj_iret C dX10_restore_32 h
set_option maxHeartbeats 4000000 in
set_option maxRecDepth 100000 in
theorem kX10_tell : ∀ (x0 : Nat) (x1 : Int32) (w : ab_W) (r : Int32) (w1 : ab_W), sX10_tell x0 x1 w = some (r, w1) → gj_Mi yX10_tell cX10_tell 2 (some .int) 1 [.ref x0, .int x1] w r w1 ∧ ab_is w 10 x0 = true := by
  intro x0 x1 w r w1 h
  unfold sX10_tell at h
  obtain ⟨hi, h⟩ := ab_ite h
  refine ⟨?_, hi⟩
  refine gj_Mi_of RX10 [some (.ref x0), some (.int x1)] (by decide +kernel) rfl (Nat.le_of_ble_eq_true rfl) rfl (fun p l e s m args below meth c D ad tc A C => ?_)
  refine gj_aload_n C (pc' := 1) (i := 0) rfl dX10_tell_0 rfl rfl ?_
  refine gj_getR C (pc' := 4) rfl dX10_tell_1 wf_X10_7 h (fun v1 h => ?_)
  refine gj_iconst C (pc' := 5) (v := 4) rfl dX10_tell_4 (by decide) ?_
  refine gj_iald C (pc' := 6) rfl dX10_tell_5 h (fun v2 h => ?_)
  refine gj_bipush C (pc' := 8) (v := 20) rfl dX10_tell_6 (by decide) ?_
  refine gj_icmp_ne C (pc' := 11) (tgt := 18) rfl dX10_tell_8 rfl h (fun h => ?_) (fun h => ?_)
  · refine gj_aload_n C (pc' := 12) (i := 0) rfl dX10_tell_11 rfl rfl ?_
    refine gj_ldc C (pc' := 14) rfl dX10_tell_12 wk_X10_56 ?_
    refine gj_callVi C (pc' := 17) rfl dX10_tell_14 wm_X10_52 uX10_errs h (kX10_errs _ _ _) (by omega) rfl rfl (Nat.le_of_ble_eq_true rfl) (fun v3 w4 h => ?_)
    exact gj_iret C dX10_tell_17 h
  · refine gj_aload_n C (pc' := 19) (i := 0) rfl dX10_tell_18 rfl rfl ?_
    refine gj_getR C (pc' := 22) rfl dX10_tell_19 wf_X10_7 h (fun v5 h => ?_)
    refine gj_bipush C (pc' := 24) (v := 106) rfl dX10_tell_22 (by decide) ?_
    refine gj_aload_n C (pc' := 25) (i := 0) rfl dX10_tell_24 rfl rfl ?_
    refine gj_getR C (pc' := 28) rfl dX10_tell_25 wf_X10_7 h (fun v6 h => ?_)
    refine gj_iconst C (pc' := 29) (v := 4) rfl dX10_tell_28 (by decide) ?_
    refine gj_iald C (pc' := 30) rfl dX10_tell_29 h (fun v7 h => ?_)
    refine gj_iadd C (pc' := 31) rfl dX10_tell_30 ?_
    refine gj_iload_n C (pc' := 32) (i := 1) rfl dX10_tell_31 rfl rfl ?_
    refine gj_iast C (pc' := 33) rfl dX10_tell_32 h (fun w8 h => ?_)
    refine gj_aload_n C (pc' := 34) (i := 0) rfl dX10_tell_33 rfl rfl ?_
    refine gj_getR C (pc' := 37) rfl dX10_tell_34 wf_X10_7 h (fun v9 h => ?_)
    refine gj_iconst C (pc' := 38) (v := 4) rfl dX10_tell_37 (by decide) ?_
    refine gj_dup2 C (pc' := 39) rfl dX10_tell_38 rfl rfl ?_
    refine gj_iald C (pc' := 40) rfl dX10_tell_39 h (fun v10 h => ?_)
    refine gj_iconst C (pc' := 41) (v := 1) rfl dX10_tell_40 (by decide) ?_
    refine gj_iadd C (pc' := 42) rfl dX10_tell_41 ?_
    refine gj_iast C (pc' := 43) rfl dX10_tell_42 h (fun w11 h => ?_)
    refine gj_aload_n C (pc' := 44) (i := 0) rfl dX10_tell_43 rfl rfl ?_
    refine gj_getR C (pc' := 47) rfl dX10_tell_44 wf_X10_7 h (fun v12 h => ?_)
    refine gj_iconst C (pc' := 48) (v := 4) rfl dX10_tell_47 (by decide) ?_
    refine gj_iald C (pc' := 49) rfl dX10_tell_48 h (fun v13 h => ?_)
    exact gj_iret C dX10_tell_49 h
