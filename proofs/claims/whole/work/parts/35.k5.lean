set_option maxHeartbeats 4000000 in
set_option maxRecDepth 100000 in
theorem kX10_shape_16 {p : Program} {l : Launch} {e : Env} {s : State} {m : MethodId} {args : Array Value} {below : List Frame} {meth : Method} {c : Code} {D : va_G} {ad : Nat → Nat} {tc : Nat → ClassId} {A : Nat → Prop} (C : gj_C p s m args meth c D ad tc A cX10_shape 3 (some .int) RX10) {r : Int32} {w1 : ab_W} {x0 : Nat} {w : ab_W} (h : sX10_shape_16 x0 w = some (r, w1)) : gj_G p l e (gj_R 2) s m args below meth c D ad tc A 3 (gj_Qi D ad tc A below args s r w1) 16 [some (.ref x0), none, none] [] w := by
  unfold sX10_shape_16 at h
  refine gj_aload_n C (pc' := 17) (i := 0) rfl dX10_shape_16 rfl rfl ?_
  refine gj_ldc C (pc' := 19) rfl dX10_shape_17 wk_X10_51 ?_
  refine gj_callVi C (pc' := 22) rfl dX10_shape_19 wm_X10_52 uX10_errs h (kX10_errs _ _ _) (by omega) rfl rfl (Nat.le_of_ble_eq_true rfl) (fun v1 w2 h => ?_)
  exact gj_iret C dX10_shape_22 h
set_option maxHeartbeats 4000000 in
set_option maxRecDepth 100000 in
theorem kX10_shape : ∀ (x0 : Nat) (x1 : Int32) (x2 : Int32) (w : ab_W) (r : Int32) (w1 : ab_W), sX10_shape x0 x1 x2 w = some (r, w1) → gj_Mi yX10_shape cX10_shape 3 (some .int) 2 [.ref x0, .int x1, .int x2] w r w1 ∧ ab_is w 10 x0 = true := by
  intro x0 x1 x2 w r w1 h
  unfold sX10_shape at h
  obtain ⟨hi, h⟩ := ab_ite h
  refine ⟨?_, hi⟩
  refine gj_Mi_of RX10 [some (.ref x0), some (.int x1), some (.int x2)] (by decide +kernel) rfl (Nat.le_of_ble_eq_true rfl) rfl (fun p l e s m args below meth c D ad tc A C => ?_)
  refine gj_iload_n C (pc' := 1) (i := 1) rfl dX10_shape_0 rfl rfl ?_
  refine gj_callSi C (pc' := 4) rfl dX10_shape_1 wm_X10_173 uX10_isSet h (kX10_isSet _ _) (by omega) rfl rfl (Nat.le_of_ble_eq_true rfl) (fun v1 w2 h => ?_)
  refine gj_if_eq C (pc' := 7) (tgt := 16) rfl dX10_shape_4 rfl h (fun h => ?_) (fun h => ?_)
  · refine gj_drop (lv' := [some _, none, none]) (And.intro rfl True.intro) ?_
    exact kX10_shape_16 C h
  · refine gj_iload_n C (pc' := 8) (i := 2) rfl dX10_shape_7 rfl rfl ?_
    refine gj_iconst C (pc' := 9) (v := 0) rfl dX10_shape_8 (by decide) ?_
    refine gj_iconst C (pc' := 10) (v := 1) rfl dX10_shape_9 (by decide) ?_
    refine gj_callSi C (pc' := 13) rfl dX10_shape_10 wm_X10_47 uX10_in h (kX10_in _ _ _ _) (by omega) rfl rfl (Nat.le_of_ble_eq_true rfl) (fun v3 w4 h => ?_)
    refine gj_if_ne C (pc' := 16) (tgt := 23) rfl dX10_shape_13 rfl h (fun h => ?_) (fun h => ?_)
    · refine gj_drop (lv' := [some _, none, none]) (And.intro rfl True.intro) ?_
      exact kX10_shape_16 C h
    · refine gj_iload_n C (pc' := 24) (i := 2) rfl dX10_shape_23 rfl rfl ?_
      refine gj_if_ne C (pc' := 27) (tgt := 35) rfl dX10_shape_24 rfl h (fun h => ?_) (fun h => ?_)
      · refine gj_aload_n C (pc' := 28) (i := 0) rfl dX10_shape_27 rfl rfl ?_
        refine gj_iload_n C (pc' := 29) (i := 1) rfl dX10_shape_28 rfl rfl ?_
        refine gj_callVi C (pc' := 32) rfl dX10_shape_29 wm_X10_69 uX10_wide h (kX10_wide _ _ _) (by omega) rfl rfl (Nat.le_of_ble_eq_true rfl) (fun v5 w6 h => ?_)
        refine gj_goto C (tgt := 40) dX10_shape_32 rfl ?_
        exact gj_iret C dX10_shape_40 h
      · refine gj_aload_n C (pc' := 36) (i := 0) rfl dX10_shape_35 rfl rfl ?_
        refine gj_iload_n C (pc' := 37) (i := 1) rfl dX10_shape_36 rfl rfl ?_
        refine gj_callVi C (pc' := 40) rfl dX10_shape_37 wm_X10_72 uX10_thick h (kX10_thick _ _ _) (by omega) rfl rfl (Nat.le_of_ble_eq_true rfl) (fun v7 w8 h => ?_)
        exact gj_iret C dX10_shape_40 h
set_option maxHeartbeats 4000000 in
set_option maxRecDepth 100000 in
theorem kX10_areSides : ∀ (x0 : Int32) (x1 : Int32) (w : ab_W) (r : Int32) (w1 : ab_W), sX10_areSides x0 x1 w = some (r, w1) → gj_Mi yX10_areSides cX10_areSides 2 (some .boolean) 1 [.int x0, .int x1] w r w1 := by
  intro x0 x1 w r w1 h
  unfold sX10_areSides at h
  refine gj_Mi_of RX10 [some (.int x0), some (.int x1)] (by decide +kernel) rfl (Nat.le_of_ble_eq_true rfl) rfl (fun p l e s m args below meth c D ad tc A C => ?_)
  refine gj_iload_n C (pc' := 1) (i := 0) rfl dX10_areSides_0 rfl rfl ?_
  refine gj_iconst C (pc' := 2) (v := 1) rfl dX10_areSides_1 (by decide) ?_
  refine gj_bipush C (pc' := 4) (v := 8) rfl dX10_areSides_2 (by decide) ?_
  refine gj_callSi C (pc' := 7) rfl dX10_areSides_4 wm_X10_47 uX10_in h (kX10_in _ _ _ _) (by omega) rfl rfl (Nat.le_of_ble_eq_true rfl) (fun v1 w2 h => ?_)
  refine gj_if_eq C (pc' := 10) (tgt := 24) rfl dX10_areSides_7 rfl h (fun h => ?_) (fun h => ?_)
  · refine gj_iconst C (pc' := 25) (v := 0) rfl dX10_areSides_24 (by decide) ?_
    exact gj_zret C dX10_areSides_25 h
  · refine gj_iload_n C (pc' := 11) (i := 1) rfl dX10_areSides_10 rfl rfl ?_
    refine gj_iconst C (pc' := 12) (v := 1) rfl dX10_areSides_11 (by decide) ?_
    refine gj_bipush C (pc' := 14) (v := 8) rfl dX10_areSides_12 (by decide) ?_
    refine gj_callSi C (pc' := 17) rfl dX10_areSides_14 wm_X10_47 uX10_in h (kX10_in _ _ _ _) (by omega) rfl rfl (Nat.le_of_ble_eq_true rfl) (fun v3 w4 h => ?_)
    refine gj_if_eq C (pc' := 20) (tgt := 24) rfl dX10_areSides_17 rfl h (fun h => ?_) (fun h => ?_)
    · refine gj_iconst C (pc' := 25) (v := 0) rfl dX10_areSides_24 (by decide) ?_
      exact gj_zret C dX10_areSides_25 h
    · refine gj_iconst C (pc' := 21) (v := 1) rfl dX10_areSides_20 (by decide) ?_
      refine gj_goto C (tgt := 25) dX10_areSides_21 rfl ?_
      exact gj_zret C dX10_areSides_25 h
set_option maxHeartbeats 4000000 in
set_option maxRecDepth 100000 in
theorem kX10_least_66 {p : Program} {l : Launch} {e : Env} {s : State} {m : MethodId} {args : Array Value} {below : List Frame} {meth : Method} {c : Code} {D : va_G} {ad : Nat → Nat} {tc : Nat → ClassId} {A : Nat → Prop} (C : gj_C p s m args meth c D ad tc A cX10_least 5 (some .int) RX10) {r : Int32} {w1 : ab_W} {k20 : Nat → Int32 → Int32 → Int32 → Int32 → ab_W → Option (Int32 × ab_W)} (hk20 : ∀ {x0 : Nat} {x1 : Int32} {x2 : Int32} {x3 : Int32} {x4 : Int32} {w : ab_W}, k20 x0 x1 x2 x3 x4 w = some (r, w1) → gj_G p l e (gj_R 2) s m args below meth c D ad tc A 5 (gj_Qi D ad tc A below args s r w1) 20 [some (.ref x0), some (.int x1), some (.int x2), some (.int x3), some (.int x4)] [] w) {x0 : Nat} {x1 : Int32} {x2 : Int32} {x3 : Int32} {x4 : Int32} {w : ab_W} (h : sX10_least_66 k20 x0 x1 x2 x3 x4 w = some (r, w1)) : gj_G p l e (gj_R 2) s m args below meth c D ad tc A 5 (gj_Qi D ad tc A below args s r w1) 66 [some (.ref x0), some (.int x1), some (.int x2), some (.int x3), some (.int x4)] [] w := by
  unfold sX10_least_66 at h
  refine gj_iinc C (pc' := 69) (i := 4) (v := _ + 1) (lv' := [_, _, _, _, _]) rfl dX10_least_66 rfl rfl (by decide) rfl rfl ?_
  refine gj_goto C (tgt := 20) dX10_least_69 rfl ?_
  refine gj_drop (lv' := [some _, some _, some _, some _, some _]) (And.intro rfl (And.intro rfl (And.intro rfl (And.intro rfl (And.intro rfl True.intro))))) ?_
  exact hk20 h
set_option maxHeartbeats 4000000 in
set_option maxRecDepth 100000 in
theorem kX10_least_43 {p : Program} {l : Launch} {e : Env} {s : State} {m : MethodId} {args : Array Value} {below : List Frame} {meth : Method} {c : Code} {D : va_G} {ad : Nat → Nat} {tc : Nat → ClassId} {A : Nat → Prop} (C : gj_C p s m args meth c D ad tc A cX10_least 5 (some .int) RX10) {r : Int32} {w1 : ab_W} {k20 : Nat → Int32 → Int32 → Int32 → Int32 → ab_W → Option (Int32 × ab_W)} (hk20 : ∀ {x0 : Nat} {x1 : Int32} {x2 : Int32} {x3 : Int32} {x4 : Int32} {w : ab_W}, k20 x0 x1 x2 x3 x4 w = some (r, w1) → gj_G p l e (gj_R 2) s m args below meth c D ad tc A 5 (gj_Qi D ad tc A below args s r w1) 20 [some (.ref x0), some (.int x1), some (.int x2), some (.int x3), some (.int x4)] [] w) {x0 : Nat} {x1 : Int32} {x2 : Int32} {x3 : Int32} {x4 : Int32} {w : ab_W} (h : sX10_least_43 k20 x0 x1 x2 x3 x4 w = some (r, w1)) : gj_G p l e (gj_R 2) s m args below meth c D ad tc A 5 (gj_Qi D ad tc A below args s r w1) 43 [some (.ref x0), some (.int x1), some (.int x2), some (.int x3), some (.int x4)] [] w := by
  unfold sX10_least_43 at h
  refine gj_aload_n C (pc' := 44) (i := 0) rfl dX10_least_43 rfl rfl ?_
  refine gj_iload C (pc' := 46) (i := 4) rfl dX10_least_44 rfl ?_
  refine gj_callVi C (pc' := 49) rfl dX10_least_46 wm_X10_69 uX10_wide h (kX10_wide _ _ _) (by omega) rfl rfl (Nat.le_of_ble_eq_true rfl) (fun v1 w2 h => ?_)
  refine gj_iload_n C (pc' := 50) (i := 1) rfl dX10_least_49 rfl rfl ?_
  refine gj_icmp_gt C (pc' := 53) (tgt := 66) rfl dX10_least_50 rfl h (fun h => ?_) (fun h => ?_)
  · refine gj_drop (lv' := [some _, some _, some _, some _, some _]) (And.intro rfl (And.intro rfl (And.intro rfl (And.intro rfl (And.intro rfl True.intro))))) ?_
    exact kX10_least_66 C (fun h => hk20 h) h
  · refine gj_aload_n C (pc' := 54) (i := 0) rfl dX10_least_53 rfl rfl ?_
    refine gj_iload C (pc' := 56) (i := 4) rfl dX10_least_54 rfl ?_
    refine gj_callVi C (pc' := 59) rfl dX10_least_56 wm_X10_72 uX10_thick h (kX10_thick _ _ _) (by omega) rfl rfl (Nat.le_of_ble_eq_true rfl) (fun v3 w4 h => ?_)
    refine gj_iload_n C (pc' := 60) (i := 2) rfl dX10_least_59 rfl rfl ?_
    refine gj_icmp_gt C (pc' := 63) (tgt := 66) rfl dX10_least_60 rfl h (fun h => ?_) (fun h => ?_)
    · refine gj_drop (lv' := [some _, some _, some _, some _, some _]) (And.intro rfl (And.intro rfl (And.intro rfl (And.intro rfl (And.intro rfl True.intro))))) ?_
      exact kX10_least_66 C (fun h => hk20 h) h
    · refine gj_iload C (pc' := 65) (i := 4) rfl dX10_least_63 rfl ?_
      refine gj_istore_n C (pc' := 66) (i := 3) (lv' := [_, _, _, _, _]) rfl dX10_least_65 rfl (by decide) rfl rfl ?_
      refine gj_drop (lv' := [some _, some _, some _, some _, some _]) (And.intro rfl (And.intro rfl (And.intro rfl (And.intro rfl (And.intro rfl True.intro))))) ?_
      exact kX10_least_66 C (fun h => hk20 h) h
set_option maxHeartbeats 4000000 in
set_option maxRecDepth 100000 in
theorem kX10_least_20 {p : Program} {l : Launch} {e : Env} {s : State} {m : MethodId} {args : Array Value} {below : List Frame} {meth : Method} {c : Code} {D : va_G} {ad : Nat → Nat} {tc : Nat → ClassId} {A : Nat → Prop} (C : gj_C p s m args meth c D ad tc A cX10_least 5 (some .int) RX10) {r : Int32} {w1 : ab_W} : ∀ {n : Nat} {x0 : Nat} {x1 : Int32} {x2 : Int32} {x3 : Int32} {x4 : Int32} {w : ab_W}, sX10_least_20 n x0 x1 x2 x3 x4 w = some (r, w1) → gj_G p l e (gj_R 2) s m args below meth c D ad tc A 5 (gj_Qi D ad tc A below args s r w1) 20 [some (.ref x0), some (.int x1), some (.int x2), some (.int x3), some (.int x4)] [] w := by
  intro n
  induction n with
  | zero =>
    intros
    rename_i h
    cases h
  | succ n ih =>
    intro x0 x1 x2 x3 x4 w h
    rw [sX10_least_20] at h
    refine gj_iload C (pc' := 22) (i := 4) rfl dX10_least_20 rfl ?_
    refine gj_bipush C (pc' := 24) (v := 127) rfl dX10_least_22 (by decide) ?_
    refine gj_icmp_gt C (pc' := 27) (tgt := 72) rfl dX10_least_24 rfl h (fun h => ?_) (fun h => ?_)
    · refine gj_iload_n C (pc' := 73) (i := 3) rfl dX10_least_72 rfl rfl ?_
      refine gj_if_ge C (pc' := 76) (tgt := 85) rfl dX10_least_73 rfl h (fun h => ?_) (fun h => ?_)
      · refine gj_aload_n C (pc' := 77) (i := 0) rfl dX10_least_76 rfl rfl ?_
        refine gj_ldc C (pc' := 79) rfl dX10_least_77 wk_X10_182 ?_
        refine gj_callVi C (pc' := 82) rfl dX10_least_79 wm_X10_52 uX10_errs h (kX10_errs _ _ _) (by omega) rfl rfl (Nat.le_of_ble_eq_true rfl) (fun v1 w2 h => ?_)
        refine gj_goto C (tgt := 86) dX10_least_82 rfl ?_
        exact gj_iret C dX10_least_86 h
      · refine gj_iload_n C (pc' := 86) (i := 3) rfl dX10_least_85 rfl rfl ?_
        exact gj_iret C dX10_least_86 h
    · refine gj_iload_n C (pc' := 28) (i := 3) rfl dX10_least_27 rfl rfl ?_
      refine gj_if_lt C (pc' := 31) (tgt := 43) rfl dX10_least_28 rfl h (fun h => ?_) (fun h => ?_)
      · refine gj_drop (lv' := [some _, some _, some _, some _, some _]) (And.intro rfl (And.intro rfl (And.intro rfl (And.intro rfl (And.intro rfl True.intro))))) ?_
        exact kX10_least_43 C (fun h => ih h) h
      · refine gj_iload C (pc' := 33) (i := 4) rfl dX10_least_31 rfl ?_
        refine gj_callSi C (pc' := 36) rfl dX10_least_33 wm_X10_179 uX10_bits h (kX10_bits _ _) (by omega) rfl rfl (Nat.le_of_ble_eq_true rfl) (fun v3 w4 h => ?_)
        refine gj_iload_n C (pc' := 37) (i := 3) rfl dX10_least_36 rfl rfl ?_
        refine gj_callSi C (pc' := 40) rfl dX10_least_37 wm_X10_179 uX10_bits h (kX10_bits _ _) (by omega) rfl rfl (Nat.le_of_ble_eq_true rfl) (fun v5 w6 h => ?_)
        refine gj_icmp_ge C (pc' := 43) (tgt := 66) rfl dX10_least_40 rfl h (fun h => ?_) (fun h => ?_)
        · refine gj_drop (lv' := [some _, some _, some _, some _, some _]) (And.intro rfl (And.intro rfl (And.intro rfl (And.intro rfl (And.intro rfl True.intro))))) ?_
          exact kX10_least_43 C (fun h => ih h) h
        · refine gj_drop (lv' := [some _, some _, some _, some _, some _]) (And.intro rfl (And.intro rfl (And.intro rfl (And.intro rfl (And.intro rfl True.intro))))) ?_
          exact kX10_least_66 C (fun h => ih h) h
set_option maxHeartbeats 4000000 in
set_option maxRecDepth 100000 in
theorem kX10_least : ∀ (x0 : Nat) (x1 : Int32) (x2 : Int32) (w : ab_W) (r : Int32) (w1 : ab_W), sX10_least x0 x1 x2 w = some (r, w1) → gj_Mi yX10_least cX10_least 5 (some .int) 2 [.ref x0, .int x1, .int x2] w r w1 ∧ ab_is w 10 x0 = true := by
  intro x0 x1 x2 w r w1 h
  unfold sX10_least at h
  obtain ⟨hi, h⟩ := ab_ite h
  refine ⟨?_, hi⟩
  refine gj_Mi_of RX10 [some (.ref x0), some (.int x1), some (.int x2), none, none] (by decide +kernel) rfl (Nat.le_of_ble_eq_true rfl) rfl (fun p l e s m args below meth c D ad tc A C => ?_)
  refine gj_iload_n C (pc' := 1) (i := 1) rfl dX10_least_0 rfl rfl ?_
  refine gj_iload_n C (pc' := 2) (i := 2) rfl dX10_least_1 rfl rfl ?_
  refine gj_callSi C (pc' := 5) rfl dX10_least_2 wm_X10_176 uX10_areSides h (kX10_areSides _ _ _) (by omega) rfl rfl (Nat.le_of_ble_eq_true rfl) (fun v1 w2 h => ?_)
  refine gj_if_ne C (pc' := 8) (tgt := 15) rfl dX10_least_5 rfl h (fun h => ?_) (fun h => ?_)
  · refine gj_aload_n C (pc' := 9) (i := 0) rfl dX10_least_8 rfl rfl ?_
    refine gj_ldc C (pc' := 11) rfl dX10_least_9 wk_X10_51 ?_
    refine gj_callVi C (pc' := 14) rfl dX10_least_11 wm_X10_52 uX10_errs h (kX10_errs _ _ _) (by omega) rfl rfl (Nat.le_of_ble_eq_true rfl) (fun v3 w4 h => ?_)
    exact gj_iret C dX10_least_14 h
  · refine gj_iconst C (pc' := 16) (v := (-1)) rfl dX10_least_15 (by decide) ?_
    refine gj_istore_n C (pc' := 17) (i := 3) (lv' := [_, _, _, _, _]) rfl dX10_least_16 rfl (by decide) rfl rfl ?_
    refine gj_iconst C (pc' := 18) (v := 0) rfl dX10_least_17 (by decide) ?_
    refine gj_istore C (pc' := 20) (i := 4) (lv' := [_, _, _, _, _]) rfl dX10_least_18 (by decide) rfl rfl ?_
    refine gj_drop (lv' := [some _, some _, some _, some _, some _]) (And.intro rfl (And.intro rfl (And.intro rfl (And.intro rfl (And.intro rfl True.intro))))) ?_
    exact kX10_least_20 C h
set_option maxHeartbeats 4000000 in
set_option maxRecDepth 100000 in
theorem kX10_shapes_17 {p : Program} {l : Launch} {e : Env} {s : State} {m : MethodId} {args : Array Value} {below : List Frame} {meth : Method} {c : Code} {D : va_G} {ad : Nat → Nat} {tc : Nat → ClassId} {A : Nat → Prop} (C : gj_C p s m args meth c D ad tc A cX10_shapes 8 (some .int) RX10) {r : Int32} {w1 : ab_W} {x0 : Nat} {w : ab_W} (h : sX10_shapes_17 x0 w = some (r, w1)) : gj_G p l e (gj_R 2) s m args below meth c D ad tc A 8 (gj_Qi D ad tc A below args s r w1) 17 [some (.ref x0), none, none, none, none, none, none, none] [] w := by
  unfold sX10_shapes_17 at h
  refine gj_aload_n C (pc' := 18) (i := 0) rfl dX10_shapes_17 rfl rfl ?_
  refine gj_ldc C (pc' := 20) rfl dX10_shapes_18 wk_X10_51 ?_
  refine gj_callVi C (pc' := 23) rfl dX10_shapes_20 wm_X10_52 uX10_errs h (kX10_errs _ _ _) (by omega) rfl rfl (Nat.le_of_ble_eq_true rfl) (fun v1 w2 h => ?_)
  exact gj_iret C dX10_shapes_23 h
set_option maxHeartbeats 4000000 in
set_option maxRecDepth 100000 in
theorem kX10_shapes_118 {p : Program} {l : Launch} {e : Env} {s : State} {m : MethodId} {args : Array Value} {below : List Frame} {meth : Method} {c : Code} {D : va_G} {ad : Nat → Nat} {tc : Nat → ClassId} {A : Nat → Prop} (C : gj_C p s m args meth c D ad tc A cX10_shapes 8 (some .int) RX10) {r : Int32} {w1 : ab_W} {x3 : Int32} {x4 : Int32} {x5 : Int32} {w : ab_W} (h : sX10_shapes_118 x3 x4 x5 w = some (r, w1)) : gj_G p l e (gj_R 2) s m args below meth c D ad tc A 8 (gj_Qi D ad tc A below args s r w1) 118 [none, none, none, some (.int x3), some (.int x4), some (.int x5), none, none] [] w := by
  unfold sX10_shapes_118 at h
  refine gj_iload_n C (pc' := 119) (i := 3) rfl dX10_shapes_118 rfl rfl ?_
  refine gj_if_ne C (pc' := 122) (tgt := 127) rfl dX10_shapes_119 rfl h (fun h => ?_) (fun h => ?_)
  · refine gj_iload C (pc' := 124) (i := 4) rfl dX10_shapes_122 rfl ?_
    refine gj_goto C (tgt := 129) dX10_shapes_124 rfl ?_
    exact gj_iret C dX10_shapes_129 h
  · refine gj_iload C (pc' := 129) (i := 5) rfl dX10_shapes_127 rfl ?_
    exact gj_iret C dX10_shapes_129 h
set_option maxHeartbeats 4000000 in
set_option maxRecDepth 100000 in
theorem kX10_shapes_93 {p : Program} {l : Launch} {e : Env} {s : State} {m : MethodId} {args : Array Value} {below : List Frame} {meth : Method} {c : Code} {D : va_G} {ad : Nat → Nat} {tc : Nat → ClassId} {A : Nat → Prop} (C : gj_C p s m args meth c D ad tc A cX10_shapes 8 (some .int) RX10) {r : Int32} {w1 : ab_W} {k34 : Nat → Int32 → Int32 → Int32 → Int32 → Int32 → Int32 → ab_W → Option (Int32 × ab_W)} (hk34 : ∀ {x0 : Nat} {x1 : Int32} {x2 : Int32} {x3 : Int32} {x4 : Int32} {x5 : Int32} {x6 : Int32} {w : ab_W}, k34 x0 x1 x2 x3 x4 x5 x6 w = some (r, w1) → gj_G p l e (gj_R 2) s m args below meth c D ad tc A 8 (gj_Qi D ad tc A below args s r w1) 34 [some (.ref x0), some (.int x1), some (.int x2), some (.int x3), some (.int x4), some (.int x5), some (.int x6), none] [] w) {x0 : Nat} {x1 : Int32} {x2 : Int32} {x3 : Int32} {x4 : Int32} {x6 : Int32} {p0 : Int32} {w : ab_W} (h : sX10_shapes_93 k34 x0 x1 x2 x3 x4 x6 p0 w = some (r, w1)) : gj_G p l e (gj_R 2) s m args below meth c D ad tc A 8 (gj_Qi D ad tc A below args s r w1) 93 [some (.ref x0), some (.int x1), some (.int x2), some (.int x3), some (.int x4), none, some (.int x6), none] [.int p0] w := by
  unfold sX10_shapes_93 at h
  refine gj_istore C (pc' := 95) (i := 5) (lv' := [_, _, _, _, _, _, _, _]) rfl dX10_shapes_93 (by decide) rfl rfl ?_
  refine gj_iinc C (pc' := 98) (i := 6) (v := _ + (-1)) (lv' := [_, _, _, _, _, _, _, _]) rfl dX10_shapes_95 rfl rfl (by decide) rfl rfl ?_
  refine gj_goto C (tgt := 34) dX10_shapes_98 rfl ?_
  refine gj_drop (lv' := [some _, some _, some _, some _, some _, some _, some _, none]) (And.intro rfl (And.intro rfl (And.intro rfl (And.intro rfl (And.intro rfl (And.intro rfl (And.intro rfl True.intro))))))) ?_
  exact hk34 h
set_option maxHeartbeats 4000000 in
set_option maxRecDepth 100000 in
theorem kX10_shapes_78 {p : Program} {l : Launch} {e : Env} {s : State} {m : MethodId} {args : Array Value} {below : List Frame} {meth : Method} {c : Code} {D : va_G} {ad : Nat → Nat} {tc : Nat → ClassId} {A : Nat → Prop} (C : gj_C p s m args meth c D ad tc A cX10_shapes 8 (some .int) RX10) {r : Int32} {w1 : ab_W} {k34 : Nat → Int32 → Int32 → Int32 → Int32 → Int32 → Int32 → ab_W → Option (Int32 × ab_W)} (hk34 : ∀ {x0 : Nat} {x1 : Int32} {x2 : Int32} {x3 : Int32} {x4 : Int32} {x5 : Int32} {x6 : Int32} {w : ab_W}, k34 x0 x1 x2 x3 x4 x5 x6 w = some (r, w1) → gj_G p l e (gj_R 2) s m args below meth c D ad tc A 8 (gj_Qi D ad tc A below args s r w1) 34 [some (.ref x0), some (.int x1), some (.int x2), some (.int x3), some (.int x4), some (.int x5), some (.int x6), none] [] w) {x0 : Nat} {x1 : Int32} {x2 : Int32} {x3 : Int32} {x5 : Int32} {x6 : Int32} {x7 : Int32} {p0 : Int32} {p1 : Int32} {w : ab_W} (h : sX10_shapes_78 k34 x0 x1 x2 x3 x5 x6 x7 p0 p1 w = some (r, w1)) : gj_G p l e (gj_R 2) s m args below meth c D ad tc A 8 (gj_Qi D ad tc A below args s r w1) 78 [some (.ref x0), some (.int x1), some (.int x2), some (.int x3), none, some (.int x5), some (.int x6), some (.int x7)] [.int p1, .int p0] w := by
  unfold sX10_shapes_78 at h
  refine gj_iadd C (pc' := 79) rfl dX10_shapes_78 ?_
  refine gj_istore C (pc' := 81) (i := 4) (lv' := [_, _, _, _, _, _, _, _]) rfl dX10_shapes_79 (by decide) rfl rfl ?_
  refine gj_iload C (pc' := 83) (i := 7) rfl dX10_shapes_81 rfl ?_
  refine gj_if_eq C (pc' := 86) (tgt := 91) rfl dX10_shapes_83 rfl h (fun h => ?_) (fun h => ?_)
  · refine gj_iload C (pc' := 93) (i := 5) rfl dX10_shapes_91 rfl ?_
    refine gj_drop (lv' := [some _, some _, some _, some _, some _, none, some _, none]) (And.intro rfl (And.intro rfl (And.intro rfl (And.intro rfl (And.intro rfl (And.intro rfl True.intro)))))) ?_
    exact kX10_shapes_93 C (fun h => hk34 h) h
  · refine gj_iload C (pc' := 88) (i := 6) rfl dX10_shapes_86 rfl ?_
    refine gj_goto C (tgt := 93) dX10_shapes_88 rfl ?_
    refine gj_drop (lv' := [some _, some _, some _, some _, some _, none, some _, none]) (And.intro rfl (And.intro rfl (And.intro rfl (And.intro rfl (And.intro rfl (And.intro rfl True.intro)))))) ?_
    exact kX10_shapes_93 C (fun h => hk34 h) h
set_option maxHeartbeats 4000000 in
set_option maxRecDepth 100000 in
theorem kX10_shapes_64 {p : Program} {l : Launch} {e : Env} {s : State} {m : MethodId} {args : Array Value} {below : List Frame} {meth : Method} {c : Code} {D : va_G} {ad : Nat → Nat} {tc : Nat → ClassId} {A : Nat → Prop} (C : gj_C p s m args meth c D ad tc A cX10_shapes 8 (some .int) RX10) {r : Int32} {w1 : ab_W} {k34 : Nat → Int32 → Int32 → Int32 → Int32 → Int32 → Int32 → ab_W → Option (Int32 × ab_W)} (hk34 : ∀ {x0 : Nat} {x1 : Int32} {x2 : Int32} {x3 : Int32} {x4 : Int32} {x5 : Int32} {x6 : Int32} {w : ab_W}, k34 x0 x1 x2 x3 x4 x5 x6 w = some (r, w1) → gj_G p l e (gj_R 2) s m args below meth c D ad tc A 8 (gj_Qi D ad tc A below args s r w1) 34 [some (.ref x0), some (.int x1), some (.int x2), some (.int x3), some (.int x4), some (.int x5), some (.int x6), none] [] w) {x0 : Nat} {x1 : Int32} {x2 : Int32} {x3 : Int32} {x4 : Int32} {x5 : Int32} {x6 : Int32} {p0 : Int32} {w : ab_W} (h : sX10_shapes_64 k34 x0 x1 x2 x3 x4 x5 x6 p0 w = some (r, w1)) : gj_G p l e (gj_R 2) s m args below meth c D ad tc A 8 (gj_Qi D ad tc A below args s r w1) 64 [some (.ref x0), some (.int x1), some (.int x2), some (.int x3), some (.int x4), some (.int x5), some (.int x6), none] [.int p0] w := by
  unfold sX10_shapes_64 at h
  refine gj_istore C (pc' := 66) (i := 7) (lv' := [_, _, _, _, _, _, _, _]) rfl dX10_shapes_64 (by decide) rfl rfl ?_
  refine gj_iload C (pc' := 68) (i := 4) rfl dX10_shapes_66 rfl ?_
  refine gj_iload C (pc' := 70) (i := 7) rfl dX10_shapes_68 rfl ?_
  refine gj_if_eq C (pc' := 73) (tgt := 77) rfl dX10_shapes_70 rfl h (fun h => ?_) (fun h => ?_)
  · refine gj_iconst C (pc' := 78) (v := 0) rfl dX10_shapes_77 (by decide) ?_
    refine gj_drop (lv' := [some _, some _, some _, some _, none, some _, some _, some _]) (And.intro rfl (And.intro rfl (And.intro rfl (And.intro rfl (And.intro rfl (And.intro rfl (And.intro rfl True.intro))))))) ?_
    exact kX10_shapes_78 C (fun h => hk34 h) h
  · refine gj_iconst C (pc' := 74) (v := 1) rfl dX10_shapes_73 (by decide) ?_
    refine gj_goto C (tgt := 78) dX10_shapes_74 rfl ?_
    refine gj_drop (lv' := [some _, some _, some _, some _, none, some _, some _, some _]) (And.intro rfl (And.intro rfl (And.intro rfl (And.intro rfl (And.intro rfl (And.intro rfl (And.intro rfl True.intro))))))) ?_
    exact kX10_shapes_78 C (fun h => hk34 h) h
set_option maxHeartbeats 4000000 in
set_option maxRecDepth 100000 in
theorem kX10_shapes_63 {p : Program} {l : Launch} {e : Env} {s : State} {m : MethodId} {args : Array Value} {below : List Frame} {meth : Method} {c : Code} {D : va_G} {ad : Nat → Nat} {tc : Nat → ClassId} {A : Nat → Prop} (C : gj_C p s m args meth c D ad tc A cX10_shapes 8 (some .int) RX10) {r : Int32} {w1 : ab_W} {k34 : Nat → Int32 → Int32 → Int32 → Int32 → Int32 → Int32 → ab_W → Option (Int32 × ab_W)} (hk34 : ∀ {x0 : Nat} {x1 : Int32} {x2 : Int32} {x3 : Int32} {x4 : Int32} {x5 : Int32} {x6 : Int32} {w : ab_W}, k34 x0 x1 x2 x3 x4 x5 x6 w = some (r, w1) → gj_G p l e (gj_R 2) s m args below meth c D ad tc A 8 (gj_Qi D ad tc A below args s r w1) 34 [some (.ref x0), some (.int x1), some (.int x2), some (.int x3), some (.int x4), some (.int x5), some (.int x6), none] [] w) {x0 : Nat} {x1 : Int32} {x2 : Int32} {x3 : Int32} {x4 : Int32} {x5 : Int32} {x6 : Int32} {w : ab_W} (h : sX10_shapes_63 k34 x0 x1 x2 x3 x4 x5 x6 w = some (r, w1)) : gj_G p l e (gj_R 2) s m args below meth c D ad tc A 8 (gj_Qi D ad tc A below args s r w1) 63 [some (.ref x0), some (.int x1), some (.int x2), some (.int x3), some (.int x4), some (.int x5), some (.int x6), none] [] w := by
  unfold sX10_shapes_63 at h
  refine gj_iconst C (pc' := 64) (v := 0) rfl dX10_shapes_63 (by decide) ?_
  refine gj_drop (lv' := [some _, some _, some _, some _, some _, some _, some _, none]) (And.intro rfl (And.intro rfl (And.intro rfl (And.intro rfl (And.intro rfl (And.intro rfl (And.intro rfl True.intro))))))) ?_
  exact kX10_shapes_64 C (fun h => hk34 h) h
set_option maxHeartbeats 4000000 in
set_option maxRecDepth 100000 in
theorem kX10_shapes_34 {p : Program} {l : Launch} {e : Env} {s : State} {m : MethodId} {args : Array Value} {below : List Frame} {meth : Method} {c : Code} {D : va_G} {ad : Nat → Nat} {tc : Nat → ClassId} {A : Nat → Prop} (C : gj_C p s m args meth c D ad tc A cX10_shapes 8 (some .int) RX10) {r : Int32} {w1 : ab_W} : ∀ {n : Nat} {x0 : Nat} {x1 : Int32} {x2 : Int32} {x3 : Int32} {x4 : Int32} {x5 : Int32} {x6 : Int32} {w : ab_W}, sX10_shapes_34 n x0 x1 x2 x3 x4 x5 x6 w = some (r, w1) → gj_G p l e (gj_R 2) s m args below meth c D ad tc A 8 (gj_Qi D ad tc A below args s r w1) 34 [some (.ref x0), some (.int x1), some (.int x2), some (.int x3), some (.int x4), some (.int x5), some (.int x6), none] [] w := by
  intro n
  induction n with
  | zero =>
    intros
    rename_i h
    cases h
  | succ n ih =>
    intro x0 x1 x2 x3 x4 x5 x6 w h
    rw [sX10_shapes_34] at h
    refine gj_iload C (pc' := 36) (i := 6) rfl dX10_shapes_34 rfl ?_
    refine gj_if_lt C (pc' := 39) (tgt := 101) rfl dX10_shapes_36 rfl h (fun h => ?_) (fun h => ?_)
    · refine gj_iload_n C (pc' := 102) (i := 3) rfl dX10_shapes_101 rfl rfl ?_
      refine gj_iconst C (pc' := 103) (v := 1) rfl dX10_shapes_102 (by decide) ?_
      refine gj_icmp_ne C (pc' := 106) (tgt := 118) rfl dX10_shapes_103 rfl h (fun h => ?_) (fun h => ?_)
      · refine gj_iload C (pc' := 108) (i := 4) rfl dX10_shapes_106 rfl ?_
        refine gj_if_ne C (pc' := 111) (tgt := 118) rfl dX10_shapes_108 rfl h (fun h => ?_) (fun h => ?_)
        · refine gj_aload_n C (pc' := 112) (i := 0) rfl dX10_shapes_111 rfl rfl ?_
          refine gj_ldc C (pc' := 114) rfl dX10_shapes_112 wk_X10_182 ?_
          refine gj_callVi C (pc' := 117) rfl dX10_shapes_114 wm_X10_52 uX10_errs h (kX10_errs _ _ _) (by omega) rfl rfl (Nat.le_of_ble_eq_true rfl) (fun v1 w2 h => ?_)
          exact gj_iret C dX10_shapes_117 h
        · refine gj_drop (lv' := [none, none, none, some _, some _, some _, none, none]) (And.intro rfl (And.intro rfl (And.intro rfl True.intro))) ?_
          exact kX10_shapes_118 C h
      · refine gj_drop (lv' := [none, none, none, some _, some _, some _, none, none]) (And.intro rfl (And.intro rfl (And.intro rfl True.intro))) ?_
        exact kX10_shapes_118 C h
    · refine gj_aload_n C (pc' := 40) (i := 0) rfl dX10_shapes_39 rfl rfl ?_
      refine gj_iload C (pc' := 42) (i := 6) rfl dX10_shapes_40 rfl ?_
      refine gj_callVi C (pc' := 45) rfl dX10_shapes_42 wm_X10_69 uX10_wide h (kX10_wide _ _ _) (by omega) rfl rfl (Nat.le_of_ble_eq_true rfl) (fun v3 w4 h => ?_)
      refine gj_iload_n C (pc' := 46) (i := 1) rfl dX10_shapes_45 rfl rfl ?_
      refine gj_icmp_ne C (pc' := 49) (tgt := 63) rfl dX10_shapes_46 rfl h (fun h => ?_) (fun h => ?_)
      · refine gj_aload_n C (pc' := 50) (i := 0) rfl dX10_shapes_49 rfl rfl ?_
        refine gj_iload C (pc' := 52) (i := 6) rfl dX10_shapes_50 rfl ?_
        refine gj_callVi C (pc' := 55) rfl dX10_shapes_52 wm_X10_72 uX10_thick h (kX10_thick _ _ _) (by omega) rfl rfl (Nat.le_of_ble_eq_true rfl) (fun v5 w6 h => ?_)
        refine gj_iload_n C (pc' := 56) (i := 2) rfl dX10_shapes_55 rfl rfl ?_
        refine gj_icmp_ne C (pc' := 59) (tgt := 63) rfl dX10_shapes_56 rfl h (fun h => ?_) (fun h => ?_)
        · refine gj_iconst C (pc' := 60) (v := 1) rfl dX10_shapes_59 (by decide) ?_
          refine gj_goto C (tgt := 64) dX10_shapes_60 rfl ?_
          refine gj_drop (lv' := [some _, some _, some _, some _, some _, some _, some _, none]) (And.intro rfl (And.intro rfl (And.intro rfl (And.intro rfl (And.intro rfl (And.intro rfl (And.intro rfl True.intro))))))) ?_
          exact kX10_shapes_64 C (fun h => ih h) h
        · refine gj_drop (lv' := [some _, some _, some _, some _, some _, some _, some _, none]) (And.intro rfl (And.intro rfl (And.intro rfl (And.intro rfl (And.intro rfl (And.intro rfl (And.intro rfl True.intro))))))) ?_
          exact kX10_shapes_63 C (fun h => ih h) h
      · refine gj_drop (lv' := [some _, some _, some _, some _, some _, some _, some _, none]) (And.intro rfl (And.intro rfl (And.intro rfl (And.intro rfl (And.intro rfl (And.intro rfl (And.intro rfl True.intro))))))) ?_
        exact kX10_shapes_63 C (fun h => ih h) h
set_option maxHeartbeats 4000000 in
set_option maxRecDepth 100000 in
theorem kX10_shapes : ∀ (x0 : Nat) (x1 : Int32) (x2 : Int32) (x3 : Int32) (w : ab_W) (r : Int32) (w1 : ab_W), sX10_shapes x0 x1 x2 x3 w = some (r, w1) → gj_Mi yX10_shapes cX10_shapes 8 (some .int) 2 [.ref x0, .int x1, .int x2, .int x3] w r w1 ∧ ab_is w 10 x0 = true := by
  intro x0 x1 x2 x3 w r w1 h
  unfold sX10_shapes at h
  obtain ⟨hi, h⟩ := ab_ite h
  refine ⟨?_, hi⟩
  refine gj_Mi_of RX10 [some (.ref x0), some (.int x1), some (.int x2), some (.int x3), none, none, none, none] (by decide +kernel) rfl (Nat.le_of_ble_eq_true rfl) rfl (fun p l e s m args below meth c D ad tc A C => ?_)
  refine gj_iload_n C (pc' := 1) (i := 1) rfl dX10_shapes_0 rfl rfl ?_
  refine gj_iload_n C (pc' := 2) (i := 2) rfl dX10_shapes_1 rfl rfl ?_
  refine gj_callSi C (pc' := 5) rfl dX10_shapes_2 wm_X10_176 uX10_areSides h (kX10_areSides _ _ _) (by omega) rfl rfl (Nat.le_of_ble_eq_true rfl) (fun v1 w2 h => ?_)
  refine gj_if_eq C (pc' := 8) (tgt := 17) rfl dX10_shapes_5 rfl h (fun h => ?_) (fun h => ?_)
  · refine gj_drop (lv' := [some _, none, none, none, none, none, none, none]) (And.intro rfl True.intro) ?_
    exact kX10_shapes_17 C h
  · refine gj_iload_n C (pc' := 9) (i := 3) rfl dX10_shapes_8 rfl rfl ?_
    refine gj_iconst C (pc' := 10) (v := 0) rfl dX10_shapes_9 (by decide) ?_
    refine gj_iconst C (pc' := 11) (v := 1) rfl dX10_shapes_10 (by decide) ?_
    refine gj_callSi C (pc' := 14) rfl dX10_shapes_11 wm_X10_47 uX10_in h (kX10_in _ _ _ _) (by omega) rfl rfl (Nat.le_of_ble_eq_true rfl) (fun v3 w4 h => ?_)
    refine gj_if_ne C (pc' := 17) (tgt := 24) rfl dX10_shapes_14 rfl h (fun h => ?_) (fun h => ?_)
    · refine gj_drop (lv' := [some _, none, none, none, none, none, none, none]) (And.intro rfl True.intro) ?_
      exact kX10_shapes_17 C h
    · refine gj_iconst C (pc' := 25) (v := 0) rfl dX10_shapes_24 (by decide) ?_
      refine gj_istore C (pc' := 27) (i := 4) (lv' := [_, _, _, _, _, _, _, _]) rfl dX10_shapes_25 (by decide) rfl rfl ?_
      refine gj_iconst C (pc' := 28) (v := 0) rfl dX10_shapes_27 (by decide) ?_
      refine gj_istore C (pc' := 30) (i := 5) (lv' := [_, _, _, _, _, _, _, _]) rfl dX10_shapes_28 (by decide) rfl rfl ?_
      refine gj_bipush C (pc' := 32) (v := 127) rfl dX10_shapes_30 (by decide) ?_
      refine gj_istore C (pc' := 34) (i := 6) (lv' := [_, _, _, _, _, _, _, _]) rfl dX10_shapes_32 (by decide) rfl rfl ?_
      refine gj_drop (lv' := [some _, some _, some _, some _, some _, some _, some _, none]) (And.intro rfl (And.intro rfl (And.intro rfl (And.intro rfl (And.intro rfl (And.intro rfl (And.intro rfl True.intro))))))) ?_
      exact kX10_shapes_34 C h
set_option maxHeartbeats 4000000 in
set_option maxRecDepth 100000 in
theorem kX10_fold_18 {p : Program} {l : Launch} {e : Env} {s : State} {m : MethodId} {args : Array Value} {below : List Frame} {meth : Method} {c : Code} {D : va_G} {ad : Nat → Nat} {tc : Nat → ClassId} {A : Nat → Prop} (C : gj_C p s m args meth c D ad tc A cX10_fold 4 (some .int) RX10) {r : Int32} {w1 : ab_W} {x0 : Nat} {w : ab_W} (h : sX10_fold_18 x0 w = some (r, w1)) : gj_G p l e (gj_R 2) s m args below meth c D ad tc A 4 (gj_Qi D ad tc A below args s r w1) 18 [some (.ref x0), none, none, none] [] w := by
  unfold sX10_fold_18 at h
  refine gj_aload_n C (pc' := 19) (i := 0) rfl dX10_fold_18 rfl rfl ?_
  refine gj_ldc C (pc' := 21) rfl dX10_fold_19 wk_X10_51 ?_
  refine gj_callVi C (pc' := 24) rfl dX10_fold_21 wm_X10_52 uX10_errs h (kX10_errs _ _ _) (by omega) rfl rfl (Nat.le_of_ble_eq_true rfl) (fun v1 w2 h => ?_)
  exact gj_iret C dX10_fold_24 h
set_option maxHeartbeats 4000000 in
set_option maxRecDepth 100000 in
theorem kX10_fold_59 {p : Program} {l : Launch} {e : Env} {s : State} {m : MethodId} {args : Array Value} {below : List Frame} {meth : Method} {c : Code} {D : va_G} {ad : Nat → Nat} {tc : Nat → ClassId} {A : Nat → Prop} (C : gj_C p s m args meth c D ad tc A cX10_fold 4 (some .int) RX10) {r : Int32} {w1 : ab_W} {x0 : Nat} {w : ab_W} (h : sX10_fold_59 x0 w = some (r, w1)) : gj_G p l e (gj_R 2) s m args below meth c D ad tc A 4 (gj_Qi D ad tc A below args s r w1) 59 [some (.ref x0), none, none, none] [] w := by
  unfold sX10_fold_59 at h
  refine gj_aload_n C (pc' := 60) (i := 0) rfl dX10_fold_59 rfl rfl ?_
  refine gj_ldc C (pc' := 62) rfl dX10_fold_60 wk_X10_183 ?_
  refine gj_callVi C (pc' := 65) rfl dX10_fold_62 wm_X10_52 uX10_errs h (kX10_errs _ _ _) (by omega) rfl rfl (Nat.le_of_ble_eq_true rfl) (fun v1 w2 h => ?_)
  exact gj_iret C dX10_fold_65 h
set_option maxHeartbeats 4000000 in
set_option maxRecDepth 100000 in
theorem kX10_fold : ∀ (x0 : Nat) (x1 : Int32) (x2 : Int32) (w : ab_W) (r : Int32) (w1 : ab_W), sX10_fold x0 x1 x2 w = some (r, w1) → gj_Mi yX10_fold cX10_fold 4 (some .int) 2 [.ref x0, .int x1, .int x2] w r w1 ∧ ab_is w 10 x0 = true := by
  intro x0 x1 x2 w r w1 h
  unfold sX10_fold at h
  obtain ⟨hi, h⟩ := ab_ite h
  refine ⟨?_, hi⟩
  refine gj_Mi_of RX10 [some (.ref x0), some (.int x1), some (.int x2), none] (by decide +kernel) rfl (Nat.le_of_ble_eq_true rfl) rfl (fun p l e s m args below meth c D ad tc A C => ?_)
  refine gj_aload_n C (pc' := 1) (i := 0) rfl dX10_fold_0 rfl rfl ?_
  refine gj_iload_n C (pc' := 2) (i := 1) rfl dX10_fold_1 rfl rfl ?_
  refine gj_callVi C (pc' := 5) rfl dX10_fold_2 wm_X10_61 uX10_isPaper h (kX10_isPaper _ _ _) (by omega) rfl rfl (Nat.le_of_ble_eq_true rfl) (fun v1 w2 h => ?_)
  refine gj_if_eq C (pc' := 8) (tgt := 18) rfl dX10_fold_5 rfl h (fun h => ?_) (fun h => ?_)
  · refine gj_drop (lv' := [some _, none, none, none]) (And.intro rfl True.intro) ?_
    exact kX10_fold_18 C h
  · refine gj_iload_n C (pc' := 9) (i := 2) rfl dX10_fold_8 rfl rfl ?_
    refine gj_iconst C (pc' := 10) (v := 0) rfl dX10_fold_9 (by decide) ?_
    refine gj_bipush C (pc' := 12) (v := 6) rfl dX10_fold_10 (by decide) ?_
    refine gj_callSi C (pc' := 15) rfl dX10_fold_12 wm_X10_47 uX10_in h (kX10_in _ _ _ _) (by omega) rfl rfl (Nat.le_of_ble_eq_true rfl) (fun v3 w4 h => ?_)
    refine gj_if_ne C (pc' := 18) (tgt := 25) rfl dX10_fold_15 rfl h (fun h => ?_) (fun h => ?_)
    · refine gj_drop (lv' := [some _, none, none, none]) (And.intro rfl True.intro) ?_
      exact kX10_fold_18 C h
    · refine gj_aload_n C (pc' := 26) (i := 0) rfl dX10_fold_25 rfl rfl ?_
      refine gj_iload_n C (pc' := 27) (i := 1) rfl dX10_fold_26 rfl rfl ?_
      refine gj_iconst C (pc' := 28) (v := 3) rfl dX10_fold_27 (by decide) ?_
      refine gj_callVi C (pc' := 31) rfl dX10_fold_28 wm_X10_65 uX10_its h (kX10_its _ _ _ _) (by omega) rfl rfl (Nat.le_of_ble_eq_true rfl) (fun v5 w6 h => ?_)
      refine gj_iconst C (pc' := 32) (v := 1) rfl dX10_fold_31 (by decide) ?_
      refine gj_iload_n C (pc' := 33) (i := 2) rfl dX10_fold_32 rfl rfl ?_
      refine gj_ishl C (pc' := 34) rfl dX10_fold_33 ?_
      refine gj_ixor C (pc' := 35) rfl dX10_fold_34 ?_
      refine gj_istore_n C (pc' := 36) (i := 3) (lv' := [_, _, _, _]) rfl dX10_fold_35 rfl (by decide) rfl rfl ?_
      refine gj_aload_n C (pc' := 37) (i := 0) rfl dX10_fold_36 rfl rfl ?_
      refine gj_iload_n C (pc' := 38) (i := 1) rfl dX10_fold_37 rfl rfl ?_
      refine gj_iconst C (pc' := 39) (v := 4) rfl dX10_fold_38 (by decide) ?_
      refine gj_callVi C (pc' := 42) rfl dX10_fold_39 wm_X10_65 uX10_its h (kX10_its _ _ _ _) (by omega) rfl rfl (Nat.le_of_ble_eq_true rfl) (fun v7 w8 h => ?_)
      refine gj_iconst C (pc' := 43) (v := 1) rfl dX10_fold_42 (by decide) ?_
      refine gj_icmp_eq C (pc' := 46) (tgt := 59) rfl dX10_fold_43 rfl h (fun h => ?_) (fun h => ?_)
      · refine gj_drop (lv' := [some _, none, none, none]) (And.intro rfl True.intro) ?_
        exact kX10_fold_59 C h
      · refine gj_aload_n C (pc' := 47) (i := 0) rfl dX10_fold_46 rfl rfl ?_
        refine gj_iload_n C (pc' := 48) (i := 3) rfl dX10_fold_47 rfl rfl ?_
        refine gj_callVi C (pc' := 51) rfl dX10_fold_48 wm_X10_72 uX10_thick h (kX10_thick _ _ _) (by omega) rfl rfl (Nat.le_of_ble_eq_true rfl) (fun v9 w10 h => ?_)
        refine gj_aload_n C (pc' := 52) (i := 0) rfl dX10_fold_51 rfl rfl ?_
        refine gj_iload_n C (pc' := 53) (i := 1) rfl dX10_fold_52 rfl rfl ?_
        refine gj_callVi C (pc' := 56) rfl dX10_fold_53 wm_X10_75 uX10_stiff h (kX10_stiff _ _ _) (by omega) rfl rfl (Nat.le_of_ble_eq_true rfl) (fun v11 w12 h => ?_)
        refine gj_icmp_le C (pc' := 59) (tgt := 66) rfl dX10_fold_56 rfl h (fun h => ?_) (fun h => ?_)
        · refine gj_drop (lv' := [some _, none, none, none]) (And.intro rfl True.intro) ?_
          exact kX10_fold_59 C h
        · refine gj_aload_n C (pc' := 67) (i := 0) rfl dX10_fold_66 rfl rfl ?_
          refine gj_iload_n C (pc' := 68) (i := 1) rfl dX10_fold_67 rfl rfl ?_
          refine gj_iconst C (pc' := 69) (v := 3) rfl dX10_fold_68 (by decide) ?_
          refine gj_iload_n C (pc' := 70) (i := 3) rfl dX10_fold_69 rfl rfl ?_
          refine gj_callVv C (pc' := 73) rfl dX10_fold_70 wm_X10_57 uX10_gets h (kX10_gets _ _ _ _ _) (by omega) rfl rfl (Nat.le_of_ble_eq_true rfl) (fun w13 h => ?_)
          refine gj_aload_n C (pc' := 74) (i := 0) rfl dX10_fold_73 rfl rfl ?_
          refine gj_iload_n C (pc' := 75) (i := 3) rfl dX10_fold_74 rfl rfl ?_
          refine gj_callVi C (pc' := 78) rfl dX10_fold_75 wm_X10_69 uX10_wide h (kX10_wide _ _ _) (by omega) rfl rfl (Nat.le_of_ble_eq_true rfl) (fun v14 w15 h => ?_)
          exact gj_iret C dX10_fold_78 h
set_option maxHeartbeats 4000000 in
set_option maxRecDepth 100000 in
theorem kX10_release_39 {p : Program} {l : Launch} {e : Env} {s : State} {m : MethodId} {args : Array Value} {below : List Frame} {meth : Method} {c : Code} {D : va_G} {ad : Nat → Nat} {tc : Nat → ClassId} {A : Nat → Prop} (C : gj_C p s m args meth c D ad tc A cX10_release 2 (some .int) RX10) {r : Int32} {w1 : ab_W} {x0 : Nat} {w : ab_W} (h : sX10_release_39 x0 w = some (r, w1)) : gj_G p l e (gj_R 3) s m args below meth c D ad tc A 2 (gj_Qi D ad tc A below args s r w1) 39 [some (.ref x0), none] [] w := by
  unfold sX10_release_39 at h
  refine gj_aload_n C (pc' := 40) (i := 0) rfl dX10_release_39 rfl rfl ?_
  refine gj_ldc C (pc' := 42) rfl dX10_release_40 wk_X10_183 ?_
  refine gj_callVi C (pc' := 45) rfl dX10_release_42 wm_X10_52 uX10_errs h (kX10_errs _ _ _) (by omega) rfl rfl (Nat.le_of_ble_eq_true rfl) (fun v1 w2 h => ?_)
  exact gj_iret C dX10_release_45 h
set_option maxHeartbeats 4000000 in
set_option maxRecDepth 100000 in
theorem kX10_release : ∀ (x0 : Nat) (x1 : Int32) (w : ab_W) (r : Int32) (w1 : ab_W), sX10_release x0 x1 w = some (r, w1) → gj_Mi yX10_release cX10_release 2 (some .int) 3 [.ref x0, .int x1] w r w1 ∧ ab_is w 10 x0 = true := by
  intro x0 x1 w r w1 h
  unfold sX10_release at h
  obtain ⟨hi, h⟩ := ab_ite h
  refine ⟨?_, hi⟩
  refine gj_Mi_of RX10 [some (.ref x0), some (.int x1)] (by decide +kernel) rfl (Nat.le_of_ble_eq_true rfl) rfl (fun p l e s m args below meth c D ad tc A C => ?_)
  refine gj_aload_n C (pc' := 1) (i := 0) rfl dX10_release_0 rfl rfl ?_
  refine gj_iload_n C (pc' := 2) (i := 1) rfl dX10_release_1 rfl rfl ?_
  refine gj_callVi C (pc' := 5) rfl dX10_release_2 wm_X10_61 uX10_isPaper h (kX10_isPaper _ _ _) (by omega) rfl rfl (Nat.le_of_ble_eq_true rfl) (fun v1 w2 h => ?_)
  refine gj_if_ne C (pc' := 8) (tgt := 15) rfl dX10_release_5 rfl h (fun h => ?_) (fun h => ?_)
  · refine gj_aload_n C (pc' := 9) (i := 0) rfl dX10_release_8 rfl rfl ?_
    refine gj_ldc C (pc' := 11) rfl dX10_release_9 wk_X10_51 ?_
    refine gj_callVi C (pc' := 14) rfl dX10_release_11 wm_X10_52 uX10_errs h (kX10_errs _ _ _) (by omega) rfl rfl (Nat.le_of_ble_eq_true rfl) (fun v3 w4 h => ?_)
    exact gj_iret C dX10_release_14 h
  · refine gj_aload_n C (pc' := 16) (i := 0) rfl dX10_release_15 rfl rfl ?_
    refine gj_iload_n C (pc' := 17) (i := 1) rfl dX10_release_16 rfl rfl ?_
    refine gj_iconst C (pc' := 18) (v := 4) rfl dX10_release_17 (by decide) ?_
    refine gj_callVi C (pc' := 21) rfl dX10_release_18 wm_X10_65 uX10_its h (kX10_its _ _ _ _) (by omega) rfl rfl (Nat.le_of_ble_eq_true rfl) (fun v5 w6 h => ?_)
    refine gj_iconst C (pc' := 22) (v := 1) rfl dX10_release_21 (by decide) ?_
    refine gj_icmp_eq C (pc' := 25) (tgt := 39) rfl dX10_release_22 rfl h (fun h => ?_) (fun h => ?_)
    · refine gj_drop (lv' := [some _, none]) (And.intro rfl True.intro) ?_
      exact kX10_release_39 C h
    · refine gj_aload_n C (pc' := 26) (i := 0) rfl dX10_release_25 rfl rfl ?_
      refine gj_iload_n C (pc' := 27) (i := 1) rfl dX10_release_26 rfl rfl ?_
      refine gj_aload_n C (pc' := 28) (i := 0) rfl dX10_release_27 rfl rfl ?_
      refine gj_iload_n C (pc' := 29) (i := 1) rfl dX10_release_28 rfl rfl ?_
      refine gj_iconst C (pc' := 30) (v := 3) rfl dX10_release_29 (by decide) ?_
      refine gj_callVi C (pc' := 33) rfl dX10_release_30 wm_X10_65 uX10_its h (kX10_its _ _ _ _) (by omega) rfl rfl (Nat.le_of_ble_eq_true rfl) (fun v7 w8 h => ?_)
      refine gj_callVi C (pc' := 36) rfl dX10_release_33 wm_X10_78 uX10_isAlive h (kX10_isAlive _ _ _ _) (by omega) rfl rfl (Nat.le_of_ble_eq_true rfl) (fun v9 w10 h => ?_)
      refine gj_if_ne C (pc' := 39) (tgt := 46) rfl dX10_release_36 rfl h (fun h => ?_) (fun h => ?_)
      · refine gj_drop (lv' := [some _, none]) (And.intro rfl True.intro) ?_
        exact kX10_release_39 C h
      · refine gj_aload_n C (pc' := 47) (i := 0) rfl dX10_release_46 rfl rfl ?_
        refine gj_iload_n C (pc' := 48) (i := 1) rfl dX10_release_47 rfl rfl ?_
        refine gj_iconst C (pc' := 49) (v := 4) rfl dX10_release_48 (by decide) ?_
        refine gj_iconst C (pc' := 50) (v := 1) rfl dX10_release_49 (by decide) ?_
        refine gj_callVv C (pc' := 53) rfl dX10_release_50 wm_X10_57 uX10_gets h (kX10_gets _ _ _ _ _) (by omega) rfl rfl (Nat.le_of_ble_eq_true rfl) (fun w11 h => ?_)
        refine gj_aload_n C (pc' := 54) (i := 0) rfl dX10_release_53 rfl rfl ?_
        refine gj_iload_n C (pc' := 55) (i := 1) rfl dX10_release_54 rfl rfl ?_
        refine gj_iconst C (pc' := 56) (v := 2) rfl dX10_release_55 (by decide) ?_
        refine gj_callVi C (pc' := 59) rfl dX10_release_56 wm_X10_65 uX10_its h (kX10_its _ _ _ _) (by omega) rfl rfl (Nat.le_of_ble_eq_true rfl) (fun v12 w13 h => ?_)
        exact gj_iret C dX10_release_59 h
set_option maxHeartbeats 4000000 in
set_option maxRecDepth 100000 in
theorem kX10_way_15 {p : Program} {l : Launch} {e : Env} {s : State} {m : MethodId} {args : Array Value} {below : List Frame} {meth : Method} {c : Code} {D : va_G} {ad : Nat → Nat} {tc : Nat → ClassId} {A : Nat → Prop} (C : gj_C p s m args meth c D ad tc A cX10_way 7 (some .int) RX10) {r : Int32} {w1 : ab_W} {x0 : Nat} {w : ab_W} (h : sX10_way_15 x0 w = some (r, w1)) : gj_G p l e (gj_R 2) s m args below meth c D ad tc A 7 (gj_Qi D ad tc A below args s r w1) 15 [some (.ref x0), none, none, none, none, none, none] [] w := by
  unfold sX10_way_15 at h
  refine gj_aload_n C (pc' := 16) (i := 0) rfl dX10_way_15 rfl rfl ?_
  refine gj_ldc C (pc' := 18) rfl dX10_way_16 wk_X10_51 ?_
  refine gj_callVi C (pc' := 21) rfl dX10_way_18 wm_X10_52 uX10_errs h (kX10_errs _ _ _) (by omega) rfl rfl (Nat.le_of_ble_eq_true rfl) (fun v1 w2 h => ?_)
  exact gj_iret C dX10_way_21 h
set_option maxHeartbeats 4000000 in
set_option maxRecDepth 100000 in
theorem kX10_way_165 {p : Program} {l : Launch} {e : Env} {s : State} {m : MethodId} {args : Array Value} {below : List Frame} {meth : Method} {c : Code} {D : va_G} {ad : Nat → Nat} {tc : Nat → ClassId} {A : Nat → Prop} (C : gj_C p s m args meth c D ad tc A cX10_way 7 (some .int) RX10) {r : Int32} {w1 : ab_W} {x0 : Nat} {x2 : Int32} {w : ab_W} (h : sX10_way_165 x0 x2 w = some (r, w1)) : gj_G p l e (gj_R 2) s m args below meth c D ad tc A 7 (gj_Qi D ad tc A below args s r w1) 165 [some (.ref x0), none, some (.int x2), none, none, none, none] [] w := by
  unfold sX10_way_165 at h
  refine gj_aload_n C (pc' := 166) (i := 0) rfl dX10_way_165 rfl rfl ?_
  refine gj_getR C (pc' := 169) rfl dX10_way_166 wf_X10_28 h (fun v1 h => ?_)
  refine gj_iload_n C (pc' := 170) (i := 2) rfl dX10_way_169 rfl rfl ?_
  refine gj_iald C (pc' := 171) rfl dX10_way_170 h (fun v2 h => ?_)
  refine gj_if_ge C (pc' := 174) (tgt := 183) rfl dX10_way_171 rfl h (fun h => ?_) (fun h => ?_)
  · refine gj_aload_n C (pc' := 175) (i := 0) rfl dX10_way_174 rfl rfl ?_
    refine gj_ldc C (pc' := 177) rfl dX10_way_175 wk_X10_182 ?_
    refine gj_callVi C (pc' := 180) rfl dX10_way_177 wm_X10_52 uX10_errs h (kX10_errs _ _ _) (by omega) rfl rfl (Nat.le_of_ble_eq_true rfl) (fun v3 w4 h => ?_)
    refine gj_goto C (tgt := 189) dX10_way_180 rfl ?_
    exact gj_iret C dX10_way_189 h
  · refine gj_aload_n C (pc' := 184) (i := 0) rfl dX10_way_183 rfl rfl ?_
    refine gj_getR C (pc' := 187) rfl dX10_way_184 wf_X10_28 h (fun v5 h => ?_)
    refine gj_iload_n C (pc' := 188) (i := 2) rfl dX10_way_187 rfl rfl ?_
    refine gj_iald C (pc' := 189) rfl dX10_way_188 h (fun v6 h => ?_)
    exact gj_iret C dX10_way_189 h
set_option maxHeartbeats 4000000 in
set_option maxRecDepth 100000 in
theorem kX10_way_153 {p : Program} {l : Launch} {e : Env} {s : State} {m : MethodId} {args : Array Value} {below : List Frame} {meth : Method} {c : Code} {D : va_G} {ad : Nat → Nat} {tc : Nat → ClassId} {A : Nat → Prop} (C : gj_C p s m args meth c D ad tc A cX10_way 7 (some .int) RX10) {r : Int32} {w1 : ab_W} {k57 : Nat → Int32 → Int32 → Int32 → ab_W → Option (Int32 × ab_W)} {k76 : Nat → Int32 → Int32 → Int32 → Int32 → ab_W → Option (Int32 × ab_W)} (hk57 : ∀ {x0 : Nat} {x1 : Int32} {x2 : Int32} {x3 : Int32} {w : ab_W}, k57 x0 x1 x2 x3 w = some (r, w1) → gj_G p l e (gj_R 2) s m args below meth c D ad tc A 7 (gj_Qi D ad tc A below args s r w1) 57 [some (.ref x0), some (.int x1), some (.int x2), some (.int x3), none, none, none] [] w) (hk76 : ∀ {x0 : Nat} {x1 : Int32} {x2 : Int32} {x3 : Int32} {x4 : Int32} {w : ab_W}, k76 x0 x1 x2 x3 x4 w = some (r, w1) → gj_G p l e (gj_R 2) s m args below meth c D ad tc A 7 (gj_Qi D ad tc A below args s r w1) 76 [some (.ref x0), some (.int x1), some (.int x2), some (.int x3), some (.int x4), none, none] [] w) {x0 : Nat} {x1 : Int32} {x2 : Int32} {x3 : Int32} {x4 : Int32} {w : ab_W} (h : sX10_way_153 k57 k76 x0 x1 x2 x3 x4 w = some (r, w1)) : gj_G p l e (gj_R 2) s m args below meth c D ad tc A 7 (gj_Qi D ad tc A below args s r w1) 153 [some (.ref x0), some (.int x1), some (.int x2), some (.int x3), some (.int x4), none, none] [] w := by
  unfold sX10_way_153 at h
  refine gj_iinc C (pc' := 156) (i := 4) (v := _ + 1) (lv' := [_, _, _, _, _, _, _]) rfl dX10_way_153 rfl rfl (by decide) rfl rfl ?_
  refine gj_goto C (tgt := 76) dX10_way_156 rfl ?_
  refine gj_drop (lv' := [some _, some _, some _, some _, some _, none, none]) (And.intro rfl (And.intro rfl (And.intro rfl (And.intro rfl (And.intro rfl True.intro))))) ?_
  exact hk76 h
set_option maxHeartbeats 4000000 in
set_option maxRecDepth 100000 in
theorem kX10_way_147 {p : Program} {l : Launch} {e : Env} {s : State} {m : MethodId} {args : Array Value} {below : List Frame} {meth : Method} {c : Code} {D : va_G} {ad : Nat → Nat} {tc : Nat → ClassId} {A : Nat → Prop} (C : gj_C p s m args meth c D ad tc A cX10_way 7 (some .int) RX10) {r : Int32} {w1 : ab_W} {k57 : Nat → Int32 → Int32 → Int32 → ab_W → Option (Int32 × ab_W)} {k76 : Nat → Int32 → Int32 → Int32 → Int32 → ab_W → Option (Int32 × ab_W)} {k86 : Nat → Int32 → Int32 → Int32 → Int32 → Int32 → ab_W → Option (Int32 × ab_W)} (hk57 : ∀ {x0 : Nat} {x1 : Int32} {x2 : Int32} {x3 : Int32} {w : ab_W}, k57 x0 x1 x2 x3 w = some (r, w1) → gj_G p l e (gj_R 2) s m args below meth c D ad tc A 7 (gj_Qi D ad tc A below args s r w1) 57 [some (.ref x0), some (.int x1), some (.int x2), some (.int x3), none, none, none] [] w) (hk76 : ∀ {x0 : Nat} {x1 : Int32} {x2 : Int32} {x3 : Int32} {x4 : Int32} {w : ab_W}, k76 x0 x1 x2 x3 x4 w = some (r, w1) → gj_G p l e (gj_R 2) s m args below meth c D ad tc A 7 (gj_Qi D ad tc A below args s r w1) 76 [some (.ref x0), some (.int x1), some (.int x2), some (.int x3), some (.int x4), none, none] [] w) (hk86 : ∀ {x0 : Nat} {x1 : Int32} {x2 : Int32} {x3 : Int32} {x4 : Int32} {x5 : Int32} {w : ab_W}, k86 x0 x1 x2 x3 x4 x5 w = some (r, w1) → gj_G p l e (gj_R 2) s m args below meth c D ad tc A 7 (gj_Qi D ad tc A below args s r w1) 86 [some (.ref x0), some (.int x1), some (.int x2), some (.int x3), some (.int x4), some (.int x5), none] [] w) {x0 : Nat} {x1 : Int32} {x2 : Int32} {x3 : Int32} {x4 : Int32} {x5 : Int32} {w : ab_W} (h : sX10_way_147 k57 k76 k86 x0 x1 x2 x3 x4 x5 w = some (r, w1)) : gj_G p l e (gj_R 2) s m args below meth c D ad tc A 7 (gj_Qi D ad tc A below args s r w1) 147 [some (.ref x0), some (.int x1), some (.int x2), some (.int x3), some (.int x4), some (.int x5), none] [] w := by
  unfold sX10_way_147 at h
  refine gj_iinc C (pc' := 150) (i := 5) (v := _ + 1) (lv' := [_, _, _, _, _, _, _]) rfl dX10_way_147 rfl rfl (by decide) rfl rfl ?_
  refine gj_goto C (tgt := 86) dX10_way_150 rfl ?_
  refine gj_drop (lv' := [some _, some _, some _, some _, some _, some _, none]) (And.intro rfl (And.intro rfl (And.intro rfl (And.intro rfl (And.intro rfl (And.intro rfl True.intro)))))) ?_
  exact hk86 h
set_option maxHeartbeats 4000000 in
set_option maxRecDepth 100000 in
theorem kX10_way_86 {p : Program} {l : Launch} {e : Env} {s : State} {m : MethodId} {args : Array Value} {below : List Frame} {meth : Method} {c : Code} {D : va_G} {ad : Nat → Nat} {tc : Nat → ClassId} {A : Nat → Prop} (C : gj_C p s m args meth c D ad tc A cX10_way 7 (some .int) RX10) {r : Int32} {w1 : ab_W} {k57 : Nat → Int32 → Int32 → Int32 → ab_W → Option (Int32 × ab_W)} {k76 : Nat → Int32 → Int32 → Int32 → Int32 → ab_W → Option (Int32 × ab_W)} (hk57 : ∀ {x0 : Nat} {x1 : Int32} {x2 : Int32} {x3 : Int32} {w : ab_W}, k57 x0 x1 x2 x3 w = some (r, w1) → gj_G p l e (gj_R 2) s m args below meth c D ad tc A 7 (gj_Qi D ad tc A below args s r w1) 57 [some (.ref x0), some (.int x1), some (.int x2), some (.int x3), none, none, none] [] w) (hk76 : ∀ {x0 : Nat} {x1 : Int32} {x2 : Int32} {x3 : Int32} {x4 : Int32} {w : ab_W}, k76 x0 x1 x2 x3 x4 w = some (r, w1) → gj_G p l e (gj_R 2) s m args below meth c D ad tc A 7 (gj_Qi D ad tc A below args s r w1) 76 [some (.ref x0), some (.int x1), some (.int x2), some (.int x3), some (.int x4), none, none] [] w) : ∀ {n : Nat} {x0 : Nat} {x1 : Int32} {x2 : Int32} {x3 : Int32} {x4 : Int32} {x5 : Int32} {w : ab_W}, sX10_way_86 k57 k76 n x0 x1 x2 x3 x4 x5 w = some (r, w1) → gj_G p l e (gj_R 2) s m args below meth c D ad tc A 7 (gj_Qi D ad tc A below args s r w1) 86 [some (.ref x0), some (.int x1), some (.int x2), some (.int x3), some (.int x4), some (.int x5), none] [] w := by
  intro n
  induction n with
  | zero =>
    intros
    rename_i h
    cases h
  | succ n ih =>
    intro x0 x1 x2 x3 x4 x5 w h
    rw [sX10_way_86] at h
    refine gj_iload C (pc' := 88) (i := 5) rfl dX10_way_86 rfl ?_
    refine gj_bipush C (pc' := 90) (v := 7) rfl dX10_way_88 (by decide) ?_
    refine gj_icmp_ge C (pc' := 93) (tgt := 153) rfl dX10_way_90 rfl h (fun h => ?_) (fun h => ?_)
    · refine gj_aload_n C (pc' := 94) (i := 0) rfl dX10_way_93 rfl rfl ?_
      refine gj_getR C (pc' := 97) rfl dX10_way_94 wf_X10_28 h (fun v1 h => ?_)
      refine gj_iload C (pc' := 99) (i := 4) rfl dX10_way_97 rfl ?_
      refine gj_iald C (pc' := 100) rfl dX10_way_99 h (fun v2 h => ?_)
      refine gj_iload_n C (pc' := 101) (i := 3) rfl dX10_way_100 rfl rfl ?_
      refine gj_icmp_ne C (pc' := 104) (tgt := 153) rfl dX10_way_101 rfl h (fun h => ?_) (fun h => ?_)
      · refine gj_iload C (pc' := 106) (i := 4) rfl dX10_way_104 rfl ?_
        refine gj_iconst C (pc' := 107) (v := 1) rfl dX10_way_106 (by decide) ?_
        refine gj_iload C (pc' := 109) (i := 5) rfl dX10_way_107 rfl ?_
        refine gj_ishl C (pc' := 110) rfl dX10_way_109 ?_
        refine gj_ixor C (pc' := 111) rfl dX10_way_110 ?_
        refine gj_istore C (pc' := 113) (i := 6) (lv' := [_, _, _, _, _, _, _]) rfl dX10_way_111 (by decide) rfl rfl ?_
        refine gj_aload_n C (pc' := 114) (i := 0) rfl dX10_way_113 rfl rfl ?_
        refine gj_getR C (pc' := 117) rfl dX10_way_114 wf_X10_28 h (fun v3 h => ?_)
        refine gj_iload C (pc' := 119) (i := 6) rfl dX10_way_117 rfl ?_
        refine gj_iald C (pc' := 120) rfl dX10_way_119 h (fun v4 h => ?_)
        refine gj_if_ge C (pc' := 123) (tgt := 147) rfl dX10_way_120 rfl h (fun h => ?_) (fun h => ?_)
        · refine gj_aload_n C (pc' := 124) (i := 0) rfl dX10_way_123 rfl rfl ?_
          refine gj_iload C (pc' := 126) (i := 6) rfl dX10_way_124 rfl ?_
          refine gj_callVi C (pc' := 129) rfl dX10_way_126 wm_X10_72 uX10_thick h (kX10_thick _ _ _) (by omega) rfl rfl (Nat.le_of_ble_eq_true rfl) (fun v5 w6 h => ?_)
          refine gj_aload_n C (pc' := 130) (i := 0) rfl dX10_way_129 rfl rfl ?_
          refine gj_iload_n C (pc' := 131) (i := 1) rfl dX10_way_130 rfl rfl ?_
          refine gj_callVi C (pc' := 134) rfl dX10_way_131 wm_X10_75 uX10_stiff h (kX10_stiff _ _ _) (by omega) rfl rfl (Nat.le_of_ble_eq_true rfl) (fun v7 w8 h => ?_)
          refine gj_icmp_gt C (pc' := 137) (tgt := 147) rfl dX10_way_134 rfl h (fun h => ?_) (fun h => ?_)
          · refine gj_drop (lv' := [some _, some _, some _, some _, some _, some _, none]) (And.intro rfl (And.intro rfl (And.intro rfl (And.intro rfl (And.intro rfl (And.intro rfl True.intro)))))) ?_
            exact kX10_way_147 C (fun h => hk57 h) (fun h => hk76 h) (fun h => ih h) h
          · refine gj_aload_n C (pc' := 138) (i := 0) rfl dX10_way_137 rfl rfl ?_
            refine gj_getR C (pc' := 141) rfl dX10_way_138 wf_X10_28 h (fun v9 h => ?_)
            refine gj_iload C (pc' := 143) (i := 6) rfl dX10_way_141 rfl ?_
            refine gj_iload_n C (pc' := 144) (i := 3) rfl dX10_way_143 rfl rfl ?_
            refine gj_iconst C (pc' := 145) (v := 1) rfl dX10_way_144 (by decide) ?_
            refine gj_iadd C (pc' := 146) rfl dX10_way_145 ?_
            refine gj_iast C (pc' := 147) rfl dX10_way_146 h (fun w10 h => ?_)
            refine gj_drop (lv' := [some _, some _, some _, some _, some _, some _, none]) (And.intro rfl (And.intro rfl (And.intro rfl (And.intro rfl (And.intro rfl (And.intro rfl True.intro)))))) ?_
            exact kX10_way_147 C (fun h => hk57 h) (fun h => hk76 h) (fun h => ih h) h
        · refine gj_drop (lv' := [some _, some _, some _, some _, some _, some _, none]) (And.intro rfl (And.intro rfl (And.intro rfl (And.intro rfl (And.intro rfl (And.intro rfl True.intro)))))) ?_
          exact kX10_way_147 C (fun h => hk57 h) (fun h => hk76 h) (fun h => ih h) h
      · refine gj_drop (lv' := [some _, some _, some _, some _, some _, none, none]) (And.intro rfl (And.intro rfl (And.intro rfl (And.intro rfl (And.intro rfl True.intro))))) ?_
        exact kX10_way_153 C (fun h => hk57 h) (fun h => hk76 h) h
    · refine gj_drop (lv' := [some _, some _, some _, some _, some _, none, none]) (And.intro rfl (And.intro rfl (And.intro rfl (And.intro rfl (And.intro rfl True.intro))))) ?_
      exact kX10_way_153 C (fun h => hk57 h) (fun h => hk76 h) h
set_option maxHeartbeats 4000000 in
set_option maxRecDepth 100000 in
theorem kX10_way_76 {p : Program} {l : Launch} {e : Env} {s : State} {m : MethodId} {args : Array Value} {below : List Frame} {meth : Method} {c : Code} {D : va_G} {ad : Nat → Nat} {tc : Nat → ClassId} {A : Nat → Prop} (C : gj_C p s m args meth c D ad tc A cX10_way 7 (some .int) RX10) {r : Int32} {w1 : ab_W} {k57 : Nat → Int32 → Int32 → Int32 → ab_W → Option (Int32 × ab_W)} (hk57 : ∀ {x0 : Nat} {x1 : Int32} {x2 : Int32} {x3 : Int32} {w : ab_W}, k57 x0 x1 x2 x3 w = some (r, w1) → gj_G p l e (gj_R 2) s m args below meth c D ad tc A 7 (gj_Qi D ad tc A below args s r w1) 57 [some (.ref x0), some (.int x1), some (.int x2), some (.int x3), none, none, none] [] w) : ∀ {n : Nat} {x0 : Nat} {x1 : Int32} {x2 : Int32} {x3 : Int32} {x4 : Int32} {w : ab_W}, sX10_way_76 k57 n x0 x1 x2 x3 x4 w = some (r, w1) → gj_G p l e (gj_R 2) s m args below meth c D ad tc A 7 (gj_Qi D ad tc A below args s r w1) 76 [some (.ref x0), some (.int x1), some (.int x2), some (.int x3), some (.int x4), none, none] [] w := by
  intro n
  induction n with
  | zero =>
    intros
    rename_i h
    cases h
  | succ n ih =>
    intro x0 x1 x2 x3 x4 w h
    rw [sX10_way_76] at h
    refine gj_iload C (pc' := 78) (i := 4) rfl dX10_way_76 rfl ?_
    refine gj_bipush C (pc' := 80) (v := 127) rfl dX10_way_78 (by decide) ?_
    refine gj_icmp_gt C (pc' := 83) (tgt := 159) rfl dX10_way_80 rfl h (fun h => ?_) (fun h => ?_)
    · refine gj_iinc C (pc' := 162) (i := 3) (v := _ + 1) (lv' := [_, _, _, _, _, _, _]) rfl dX10_way_159 rfl rfl (by decide) rfl rfl ?_
      refine gj_goto C (tgt := 57) dX10_way_162 rfl ?_
      refine gj_drop (lv' := [some _, some _, some _, some _, none, none, none]) (And.intro rfl (And.intro rfl (And.intro rfl (And.intro rfl True.intro)))) ?_
      exact hk57 h
    · refine gj_iconst C (pc' := 84) (v := 0) rfl dX10_way_83 (by decide) ?_
      refine gj_istore C (pc' := 86) (i := 5) (lv' := [_, _, _, _, _, _, _]) rfl dX10_way_84 (by decide) rfl rfl ?_
      refine gj_drop (lv' := [some _, some _, some _, some _, some _, some _, none]) (And.intro rfl (And.intro rfl (And.intro rfl (And.intro rfl (And.intro rfl (And.intro rfl True.intro)))))) ?_
      exact kX10_way_86 C (fun h => hk57 h) (fun h => ih h) h
set_option maxHeartbeats 4000000 in
set_option maxRecDepth 100000 in
theorem kX10_way_57 {p : Program} {l : Launch} {e : Env} {s : State} {m : MethodId} {args : Array Value} {below : List Frame} {meth : Method} {c : Code} {D : va_G} {ad : Nat → Nat} {tc : Nat → ClassId} {A : Nat → Prop} (C : gj_C p s m args meth c D ad tc A cX10_way 7 (some .int) RX10) {r : Int32} {w1 : ab_W} : ∀ {n : Nat} {x0 : Nat} {x1 : Int32} {x2 : Int32} {x3 : Int32} {w : ab_W}, sX10_way_57 n x0 x1 x2 x3 w = some (r, w1) → gj_G p l e (gj_R 2) s m args below meth c D ad tc A 7 (gj_Qi D ad tc A below args s r w1) 57 [some (.ref x0), some (.int x1), some (.int x2), some (.int x3), none, none, none] [] w := by
  intro n
  induction n with
  | zero =>
    intros
    rename_i h
    cases h
  | succ n ih =>
    intro x0 x1 x2 x3 w h
    rw [sX10_way_57] at h
    refine gj_iload_n C (pc' := 58) (i := 3) rfl dX10_way_57 rfl rfl ?_
    refine gj_sipush C (pc' := 61) (v := 128) rfl dX10_way_58 (by decide) ?_
    refine gj_icmp_ge C (pc' := 64) (tgt := 165) rfl dX10_way_61 rfl h (fun h => ?_) (fun h => ?_)
    · refine gj_aload_n C (pc' := 65) (i := 0) rfl dX10_way_64 rfl rfl ?_
      refine gj_getR C (pc' := 68) rfl dX10_way_65 wf_X10_28 h (fun v1 h => ?_)
      refine gj_iload_n C (pc' := 69) (i := 2) rfl dX10_way_68 rfl rfl ?_
      refine gj_iald C (pc' := 70) rfl dX10_way_69 h (fun v2 h => ?_)
      refine gj_if_ge C (pc' := 73) (tgt := 165) rfl dX10_way_70 rfl h (fun h => ?_) (fun h => ?_)
      · refine gj_iconst C (pc' := 74) (v := 0) rfl dX10_way_73 (by decide) ?_
        refine gj_istore C (pc' := 76) (i := 4) (lv' := [_, _, _, _, _, _, _]) rfl dX10_way_74 (by decide) rfl rfl ?_
        refine gj_drop (lv' := [some _, some _, some _, some _, some _, none, none]) (And.intro rfl (And.intro rfl (And.intro rfl (And.intro rfl (And.intro rfl True.intro))))) ?_
        exact kX10_way_76 C (fun h => ih h) h
      · refine gj_drop (lv' := [some _, none, some _, none, none, none, none]) (And.intro rfl (And.intro rfl True.intro)) ?_
        exact kX10_way_165 C h
    · refine gj_drop (lv' := [some _, none, some _, none, none, none, none]) (And.intro rfl (And.intro rfl True.intro)) ?_
      exact kX10_way_165 C h
set_option maxHeartbeats 4000000 in
set_option maxRecDepth 100000 in
theorem kX10_way_24 {p : Program} {l : Launch} {e : Env} {s : State} {m : MethodId} {args : Array Value} {below : List Frame} {meth : Method} {c : Code} {D : va_G} {ad : Nat → Nat} {tc : Nat → ClassId} {A : Nat → Prop} (C : gj_C p s m args meth c D ad tc A cX10_way 7 (some .int) RX10) {r : Int32} {w1 : ab_W} : ∀ {n : Nat} {x0 : Nat} {x1 : Int32} {x2 : Int32} {x3 : Int32} {w : ab_W}, sX10_way_24 n x0 x1 x2 x3 w = some (r, w1) → gj_G p l e (gj_R 2) s m args below meth c D ad tc A 7 (gj_Qi D ad tc A below args s r w1) 24 [some (.ref x0), some (.int x1), some (.int x2), some (.int x3), none, none, none] [] w := by
  intro n
  induction n with
  | zero =>
    intros
    rename_i h
    cases h
  | succ n ih =>
    intro x0 x1 x2 x3 w h
    rw [sX10_way_24] at h
    refine gj_iload_n C (pc' := 25) (i := 3) rfl dX10_way_24 rfl rfl ?_
    refine gj_bipush C (pc' := 27) (v := 127) rfl dX10_way_25 (by decide) ?_
    refine gj_icmp_gt C (pc' := 30) (tgt := 43) rfl dX10_way_27 rfl h (fun h => ?_) (fun h => ?_)
    · refine gj_aload_n C (pc' := 44) (i := 0) rfl dX10_way_43 rfl rfl ?_
      refine gj_getR C (pc' := 47) rfl dX10_way_44 wf_X10_28 h (fun v1 h => ?_)
      refine gj_aload_n C (pc' := 48) (i := 0) rfl dX10_way_47 rfl rfl ?_
      refine gj_iload_n C (pc' := 49) (i := 1) rfl dX10_way_48 rfl rfl ?_
      refine gj_iconst C (pc' := 50) (v := 3) rfl dX10_way_49 (by decide) ?_
      refine gj_callVi C (pc' := 53) rfl dX10_way_50 wm_X10_65 uX10_its h (kX10_its _ _ _ _) (by omega) rfl rfl (Nat.le_of_ble_eq_true rfl) (fun v2 w3 h => ?_)
      refine gj_iconst C (pc' := 54) (v := 0) rfl dX10_way_53 (by decide) ?_
      refine gj_iast C (pc' := 55) rfl dX10_way_54 h (fun w4 h => ?_)
      refine gj_iconst C (pc' := 56) (v := 0) rfl dX10_way_55 (by decide) ?_
      refine gj_istore_n C (pc' := 57) (i := 3) (lv' := [_, _, _, _, _, _, _]) rfl dX10_way_56 rfl (by decide) rfl rfl ?_
      refine gj_drop (lv' := [some _, some _, some _, some _, none, none, none]) (And.intro rfl (And.intro rfl (And.intro rfl (And.intro rfl True.intro)))) ?_
      exact kX10_way_57 C h
    · refine gj_aload_n C (pc' := 31) (i := 0) rfl dX10_way_30 rfl rfl ?_
      refine gj_getR C (pc' := 34) rfl dX10_way_31 wf_X10_28 h (fun v5 h => ?_)
      refine gj_iload_n C (pc' := 35) (i := 3) rfl dX10_way_34 rfl rfl ?_
      refine gj_iconst C (pc' := 36) (v := (-1)) rfl dX10_way_35 (by decide) ?_
      refine gj_iast C (pc' := 37) rfl dX10_way_36 h (fun w6 h => ?_)
      refine gj_iinc C (pc' := 40) (i := 3) (v := _ + 1) (lv' := [_, _, _, _, _, _, _]) rfl dX10_way_37 rfl rfl (by decide) rfl rfl ?_
      refine gj_goto C (tgt := 24) dX10_way_40 rfl ?_
      refine gj_drop (lv' := [some _, some _, some _, some _, none, none, none]) (And.intro rfl (And.intro rfl (And.intro rfl (And.intro rfl True.intro)))) ?_
      exact ih h
set_option maxHeartbeats 4000000 in
set_option maxRecDepth 100000 in
theorem kX10_way : ∀ (x0 : Nat) (x1 : Int32) (x2 : Int32) (w : ab_W) (r : Int32) (w1 : ab_W), sX10_way x0 x1 x2 w = some (r, w1) → gj_Mi yX10_way cX10_way 7 (some .int) 2 [.ref x0, .int x1, .int x2] w r w1 ∧ ab_is w 10 x0 = true := by
  intro x0 x1 x2 w r w1 h
  unfold sX10_way at h
  obtain ⟨hi, h⟩ := ab_ite h
  refine ⟨?_, hi⟩
  refine gj_Mi_of RX10 [some (.ref x0), some (.int x1), some (.int x2), none, none, none, none] (by decide +kernel) rfl (Nat.le_of_ble_eq_true rfl) rfl (fun p l e s m args below meth c D ad tc A C => ?_)
  refine gj_aload_n C (pc' := 1) (i := 0) rfl dX10_way_0 rfl rfl ?_
  refine gj_iload_n C (pc' := 2) (i := 1) rfl dX10_way_1 rfl rfl ?_
  refine gj_callVi C (pc' := 5) rfl dX10_way_2 wm_X10_61 uX10_isPaper h (kX10_isPaper _ _ _) (by omega) rfl rfl (Nat.le_of_ble_eq_true rfl) (fun v1 w2 h => ?_)
  refine gj_if_eq C (pc' := 8) (tgt := 15) rfl dX10_way_5 rfl h (fun h => ?_) (fun h => ?_)
  · refine gj_drop (lv' := [some _, none, none, none, none, none, none]) (And.intro rfl True.intro) ?_
    exact kX10_way_15 C h
  · refine gj_iload_n C (pc' := 9) (i := 2) rfl dX10_way_8 rfl rfl ?_
    refine gj_callSi C (pc' := 12) rfl dX10_way_9 wm_X10_173 uX10_isSet h (kX10_isSet _ _) (by omega) rfl rfl (Nat.le_of_ble_eq_true rfl) (fun v3 w4 h => ?_)
    refine gj_if_ne C (pc' := 15) (tgt := 22) rfl dX10_way_12 rfl h (fun h => ?_) (fun h => ?_)
    · refine gj_drop (lv' := [some _, none, none, none, none, none, none]) (And.intro rfl True.intro) ?_
      exact kX10_way_15 C h
    · refine gj_iconst C (pc' := 23) (v := 0) rfl dX10_way_22 (by decide) ?_
      refine gj_istore_n C (pc' := 24) (i := 3) (lv' := [_, _, _, _, _, _, _]) rfl dX10_way_23 rfl (by decide) rfl rfl ?_
      refine gj_drop (lv' := [some _, some _, some _, some _, none, none, none]) (And.intro rfl (And.intro rfl (And.intro rfl (And.intro rfl True.intro)))) ?_
      exact kX10_way_24 C h
set_option maxHeartbeats 4000000 in
set_option maxRecDepth 100000 in
theorem kX10_open_18 {p : Program} {l : Launch} {e : Env} {s : State} {m : MethodId} {args : Array Value} {below : List Frame} {meth : Method} {c : Code} {D : va_G} {ad : Nat → Nat} {tc : Nat → ClassId} {A : Nat → Prop} (C : gj_C p s m args meth c D ad tc A cX10_open 6 (some .int) RX10) {r : Int32} {w1 : ab_W} {x0 : Nat} {w : ab_W} (h : sX10_open_18 x0 w = some (r, w1)) : gj_G p l e (gj_R 2) s m args below meth c D ad tc A 6 (gj_Qi D ad tc A below args s r w1) 18 [some (.ref x0), none, none, none, none, none] [] w := by
  unfold sX10_open_18 at h
  refine gj_aload_n C (pc' := 19) (i := 0) rfl dX10_open_18 rfl rfl ?_
  refine gj_ldc C (pc' := 21) rfl dX10_open_19 wk_X10_51 ?_
  refine gj_callVi C (pc' := 24) rfl dX10_open_21 wm_X10_52 uX10_errs h (kX10_errs _ _ _) (by omega) rfl rfl (Nat.le_of_ble_eq_true rfl) (fun v1 w2 h => ?_)
  exact gj_iret C dX10_open_24 h
set_option maxHeartbeats 4000000 in
set_option maxRecDepth 100000 in
theorem kX10_open_90 {p : Program} {l : Launch} {e : Env} {s : State} {m : MethodId} {args : Array Value} {below : List Frame} {meth : Method} {c : Code} {D : va_G} {ad : Nat → Nat} {tc : Nat → ClassId} {A : Nat → Prop} (C : gj_C p s m args meth c D ad tc A cX10_open 6 (some .int) RX10) {r : Int32} {w1 : ab_W} {k38 : Nat → Int32 → Int32 → Int32 → Int32 → ab_W → Option (Int32 × ab_W)} (hk38 : ∀ {x0 : Nat} {x2 : Int32} {x3 : Int32} {x4 : Int32} {x5 : Int32} {w : ab_W}, k38 x0 x2 x3 x4 x5 w = some (r, w1) → gj_G p l e (gj_R 2) s m args below meth c D ad tc A 6 (gj_Qi D ad tc A below args s r w1) 38 [some (.ref x0), none, some (.int x2), some (.int x3), some (.int x4), some (.int x5)] [] w) {x0 : Nat} {x2 : Int32} {x3 : Int32} {x4 : Int32} {x5 : Int32} {w : ab_W} (h : sX10_open_90 k38 x0 x2 x3 x4 x5 w = some (r, w1)) : gj_G p l e (gj_R 2) s m args below meth c D ad tc A 6 (gj_Qi D ad tc A below args s r w1) 90 [some (.ref x0), none, some (.int x2), some (.int x3), some (.int x4), some (.int x5)] [] w := by
  unfold sX10_open_90 at h
  refine gj_iinc C (pc' := 93) (i := 5) (v := _ + 1) (lv' := [_, _, _, _, _, _]) rfl dX10_open_90 rfl rfl (by decide) rfl rfl ?_
  refine gj_goto C (tgt := 38) dX10_open_93 rfl ?_
  refine gj_drop (lv' := [some _, none, some _, some _, some _, some _]) (And.intro rfl (And.intro rfl (And.intro rfl (And.intro rfl (And.intro rfl True.intro))))) ?_
  exact hk38 h
set_option maxHeartbeats 4000000 in
set_option maxRecDepth 100000 in
theorem kX10_open_72 {p : Program} {l : Launch} {e : Env} {s : State} {m : MethodId} {args : Array Value} {below : List Frame} {meth : Method} {c : Code} {D : va_G} {ad : Nat → Nat} {tc : Nat → ClassId} {A : Nat → Prop} (C : gj_C p s m args meth c D ad tc A cX10_open 6 (some .int) RX10) {r : Int32} {w1 : ab_W} {k38 : Nat → Int32 → Int32 → Int32 → Int32 → ab_W → Option (Int32 × ab_W)} (hk38 : ∀ {x0 : Nat} {x2 : Int32} {x3 : Int32} {x4 : Int32} {x5 : Int32} {w : ab_W}, k38 x0 x2 x3 x4 x5 w = some (r, w1) → gj_G p l e (gj_R 2) s m args below meth c D ad tc A 6 (gj_Qi D ad tc A below args s r w1) 38 [some (.ref x0), none, some (.int x2), some (.int x3), some (.int x4), some (.int x5)] [] w) {x0 : Nat} {x2 : Int32} {x3 : Int32} {x4 : Int32} {x5 : Int32} {w : ab_W} (h : sX10_open_72 k38 x0 x2 x3 x4 x5 w = some (r, w1)) : gj_G p l e (gj_R 2) s m args below meth c D ad tc A 6 (gj_Qi D ad tc A below args s r w1) 72 [some (.ref x0), none, some (.int x2), some (.int x3), some (.int x4), some (.int x5)] [] w := by
  unfold sX10_open_72 at h
  refine gj_aload_n C (pc' := 73) (i := 0) rfl dX10_open_72 rfl rfl ?_
  refine gj_iload_n C (pc' := 74) (i := 3) rfl dX10_open_73 rfl rfl ?_
  refine gj_iload C (pc' := 76) (i := 5) rfl dX10_open_74 rfl ?_
  refine gj_iconst C (pc' := 77) (v := (-1)) rfl dX10_open_76 (by decide) ?_
  refine gj_ixor C (pc' := 78) rfl dX10_open_77 ?_
  refine gj_iand C (pc' := 79) rfl dX10_open_78 ?_
  refine gj_callVi C (pc' := 82) rfl dX10_open_79 wm_X10_69 uX10_wide h (kX10_wide _ _ _) (by omega) rfl rfl (Nat.le_of_ble_eq_true rfl) (fun v1 w2 h => ?_)
  refine gj_iload_n C (pc' := 83) (i := 2) rfl dX10_open_82 rfl rfl ?_
  refine gj_icmp_lt C (pc' := 86) (tgt := 90) rfl dX10_open_83 rfl h (fun h => ?_) (fun h => ?_)
  · refine gj_drop (lv' := [some _, none, some _, some _, some _, some _]) (And.intro rfl (And.intro rfl (And.intro rfl (And.intro rfl (And.intro rfl True.intro))))) ?_
    exact kX10_open_90 C (fun h => hk38 h) h
  · refine gj_iload C (pc' := 88) (i := 5) rfl dX10_open_86 rfl ?_
    refine gj_istore C (pc' := 90) (i := 4) (lv' := [_, _, _, _, _, _]) rfl dX10_open_88 (by decide) rfl rfl ?_
    refine gj_drop (lv' := [some _, none, some _, some _, some _, some _]) (And.intro rfl (And.intro rfl (And.intro rfl (And.intro rfl (And.intro rfl True.intro))))) ?_
    exact kX10_open_90 C (fun h => hk38 h) h
set_option maxHeartbeats 4000000 in
set_option maxRecDepth 100000 in
theorem kX10_open_38 {p : Program} {l : Launch} {e : Env} {s : State} {m : MethodId} {args : Array Value} {below : List Frame} {meth : Method} {c : Code} {D : va_G} {ad : Nat → Nat} {tc : Nat → ClassId} {A : Nat → Prop} (C : gj_C p s m args meth c D ad tc A cX10_open 6 (some .int) RX10) {r : Int32} {w1 : ab_W} : ∀ {n : Nat} {x0 : Nat} {x2 : Int32} {x3 : Int32} {x4 : Int32} {x5 : Int32} {w : ab_W}, sX10_open_38 n x0 x2 x3 x4 x5 w = some (r, w1) → gj_G p l e (gj_R 2) s m args below meth c D ad tc A 6 (gj_Qi D ad tc A below args s r w1) 38 [some (.ref x0), none, some (.int x2), some (.int x3), some (.int x4), some (.int x5)] [] w := by
  intro n
  induction n with
  | zero =>
    intros
    rename_i h
    cases h
  | succ n ih =>
    intro x0 x2 x3 x4 x5 w h
    rw [sX10_open_38] at h
    refine gj_iload C (pc' := 40) (i := 5) rfl dX10_open_38 rfl ?_
    refine gj_bipush C (pc' := 42) (v := 127) rfl dX10_open_40 (by decide) ?_
    refine gj_icmp_gt C (pc' := 45) (tgt := 96) rfl dX10_open_42 rfl h (fun h => ?_) (fun h => ?_)
    · refine gj_iload C (pc' := 98) (i := 4) rfl dX10_open_96 rfl ?_
      refine gj_if_ge C (pc' := 101) (tgt := 110) rfl dX10_open_98 rfl h (fun h => ?_) (fun h => ?_)
      · refine gj_aload_n C (pc' := 102) (i := 0) rfl dX10_open_101 rfl rfl ?_
        refine gj_ldc C (pc' := 104) rfl dX10_open_102 wk_X10_182 ?_
        refine gj_callVi C (pc' := 107) rfl dX10_open_104 wm_X10_52 uX10_errs h (kX10_errs _ _ _) (by omega) rfl rfl (Nat.le_of_ble_eq_true rfl) (fun v1 w2 h => ?_)
        refine gj_goto C (tgt := 112) dX10_open_107 rfl ?_
        exact gj_iret C dX10_open_112 h
      · refine gj_iload C (pc' := 112) (i := 4) rfl dX10_open_110 rfl ?_
        exact gj_iret C dX10_open_112 h
    · refine gj_iload C (pc' := 47) (i := 5) rfl dX10_open_45 rfl ?_
      refine gj_iload_n C (pc' := 48) (i := 3) rfl dX10_open_47 rfl rfl ?_
      refine gj_iconst C (pc' := 49) (v := (-1)) rfl dX10_open_48 (by decide) ?_
      refine gj_ixor C (pc' := 50) rfl dX10_open_49 ?_
      refine gj_iand C (pc' := 51) rfl dX10_open_50 ?_
      refine gj_if_ne C (pc' := 54) (tgt := 90) rfl dX10_open_51 rfl h (fun h => ?_) (fun h => ?_)
      · refine gj_iload C (pc' := 56) (i := 4) rfl dX10_open_54 rfl ?_
        refine gj_if_lt C (pc' := 59) (tgt := 72) rfl dX10_open_56 rfl h (fun h => ?_) (fun h => ?_)
        · refine gj_drop (lv' := [some _, none, some _, some _, some _, some _]) (And.intro rfl (And.intro rfl (And.intro rfl (And.intro rfl (And.intro rfl True.intro))))) ?_
          exact kX10_open_72 C (fun h => ih h) h
        · refine gj_iload C (pc' := 61) (i := 5) rfl dX10_open_59 rfl ?_
          refine gj_callSi C (pc' := 64) rfl dX10_open_61 wm_X10_179 uX10_bits h (kX10_bits _ _) (by omega) rfl rfl (Nat.le_of_ble_eq_true rfl) (fun v3 w4 h => ?_)
          refine gj_iload C (pc' := 66) (i := 4) rfl dX10_open_64 rfl ?_
          refine gj_callSi C (pc' := 69) rfl dX10_open_66 wm_X10_179 uX10_bits h (kX10_bits _ _) (by omega) rfl rfl (Nat.le_of_ble_eq_true rfl) (fun v5 w6 h => ?_)
          refine gj_icmp_ge C (pc' := 72) (tgt := 90) rfl dX10_open_69 rfl h (fun h => ?_) (fun h => ?_)
          · refine gj_drop (lv' := [some _, none, some _, some _, some _, some _]) (And.intro rfl (And.intro rfl (And.intro rfl (And.intro rfl (And.intro rfl True.intro))))) ?_
            exact kX10_open_72 C (fun h => ih h) h
          · refine gj_drop (lv' := [some _, none, some _, some _, some _, some _]) (And.intro rfl (And.intro rfl (And.intro rfl (And.intro rfl (And.intro rfl True.intro))))) ?_
            exact kX10_open_90 C (fun h => ih h) h
      · refine gj_drop (lv' := [some _, none, some _, some _, some _, some _]) (And.intro rfl (And.intro rfl (And.intro rfl (And.intro rfl (And.intro rfl True.intro))))) ?_
        exact kX10_open_90 C (fun h => ih h) h
set_option maxHeartbeats 4000000 in
set_option maxRecDepth 100000 in
theorem kX10_open : ∀ (x0 : Nat) (x1 : Int32) (x2 : Int32) (w : ab_W) (r : Int32) (w1 : ab_W), sX10_open x0 x1 x2 w = some (r, w1) → gj_Mi yX10_open cX10_open 6 (some .int) 2 [.ref x0, .int x1, .int x2] w r w1 ∧ ab_is w 10 x0 = true := by
  intro x0 x1 x2 w r w1 h
  unfold sX10_open at h
  obtain ⟨hi, h⟩ := ab_ite h
  refine ⟨?_, hi⟩
  refine gj_Mi_of RX10 [some (.ref x0), some (.int x1), some (.int x2), none, none, none] (by decide +kernel) rfl (Nat.le_of_ble_eq_true rfl) rfl (fun p l e s m args below meth c D ad tc A C => ?_)
  refine gj_aload_n C (pc' := 1) (i := 0) rfl dX10_open_0 rfl rfl ?_
  refine gj_iload_n C (pc' := 2) (i := 1) rfl dX10_open_1 rfl rfl ?_
  refine gj_callVi C (pc' := 5) rfl dX10_open_2 wm_X10_61 uX10_isPaper h (kX10_isPaper _ _ _) (by omega) rfl rfl (Nat.le_of_ble_eq_true rfl) (fun v1 w2 h => ?_)
  refine gj_if_eq C (pc' := 8) (tgt := 18) rfl dX10_open_5 rfl h (fun h => ?_) (fun h => ?_)
  · refine gj_drop (lv' := [some _, none, none, none, none, none]) (And.intro rfl True.intro) ?_
    exact kX10_open_18 C h
  · refine gj_iload_n C (pc' := 9) (i := 2) rfl dX10_open_8 rfl rfl ?_
    refine gj_iconst C (pc' := 10) (v := 1) rfl dX10_open_9 (by decide) ?_
    refine gj_bipush C (pc' := 12) (v := 8) rfl dX10_open_10 (by decide) ?_
    refine gj_callSi C (pc' := 15) rfl dX10_open_12 wm_X10_47 uX10_in h (kX10_in _ _ _ _) (by omega) rfl rfl (Nat.le_of_ble_eq_true rfl) (fun v3 w4 h => ?_)
    refine gj_if_ne C (pc' := 18) (tgt := 25) rfl dX10_open_15 rfl h (fun h => ?_) (fun h => ?_)
    · refine gj_drop (lv' := [some _, none, none, none, none, none]) (And.intro rfl True.intro) ?_
      exact kX10_open_18 C h
    · refine gj_aload_n C (pc' := 26) (i := 0) rfl dX10_open_25 rfl rfl ?_
      refine gj_iload_n C (pc' := 27) (i := 1) rfl dX10_open_26 rfl rfl ?_
      refine gj_iconst C (pc' := 28) (v := 3) rfl dX10_open_27 (by decide) ?_
      refine gj_callVi C (pc' := 31) rfl dX10_open_28 wm_X10_65 uX10_its h (kX10_its _ _ _ _) (by omega) rfl rfl (Nat.le_of_ble_eq_true rfl) (fun v5 w6 h => ?_)
      refine gj_istore_n C (pc' := 32) (i := 3) (lv' := [_, _, _, _, _, _]) rfl dX10_open_31 rfl (by decide) rfl rfl ?_
      refine gj_iconst C (pc' := 33) (v := (-1)) rfl dX10_open_32 (by decide) ?_
      refine gj_istore C (pc' := 35) (i := 4) (lv' := [_, _, _, _, _, _]) rfl dX10_open_33 (by decide) rfl rfl ?_
      refine gj_iconst C (pc' := 36) (v := 0) rfl dX10_open_35 (by decide) ?_
      refine gj_istore C (pc' := 38) (i := 5) (lv' := [_, _, _, _, _, _]) rfl dX10_open_36 (by decide) rfl rfl ?_
      refine gj_drop (lv' := [some _, none, some _, some _, some _, some _]) (And.intro rfl (And.intro rfl (And.intro rfl (And.intro rfl (And.intro rfl True.intro))))) ?_
      exact kX10_open_38 C h
set_option maxHeartbeats 4000000 in
set_option maxRecDepth 100000 in
theorem kX10_areAlike : ∀ (x0 : Nat) (x1 : Int32) (x2 : Int32) (w : ab_W) (r : Int32) (w1 : ab_W), sX10_areAlike x0 x1 x2 w = some (r, w1) → gj_Mi yX10_areAlike cX10_areAlike 5 (some .boolean) 2 [.ref x0, .int x1, .int x2] w r w1 ∧ ab_is w 10 x0 = true := by
  intro x0 x1 x2 w r w1 h
  unfold sX10_areAlike at h
  obtain ⟨hi, h⟩ := ab_ite h
  refine ⟨?_, hi⟩
  refine gj_Mi_of RX10 [some (.ref x0), some (.int x1), some (.int x2), none, none] (by decide +kernel) rfl (Nat.le_of_ble_eq_true rfl) rfl (fun p l e s m args below meth c D ad tc A C => ?_)
  refine gj_aload_n C (pc' := 1) (i := 0) rfl dX10_areAlike_0 rfl rfl ?_
  refine gj_iload_n C (pc' := 2) (i := 1) rfl dX10_areAlike_1 rfl rfl ?_
  refine gj_iconst C (pc' := 3) (v := 3) rfl dX10_areAlike_2 (by decide) ?_
  refine gj_callVi C (pc' := 6) rfl dX10_areAlike_3 wm_X10_65 uX10_its h (kX10_its _ _ _ _) (by omega) rfl rfl (Nat.le_of_ble_eq_true rfl) (fun v1 w2 h => ?_)
  refine gj_istore_n C (pc' := 7) (i := 3) (lv' := [_, _, _, _, _]) rfl dX10_areAlike_6 rfl (by decide) rfl rfl ?_
  refine gj_aload_n C (pc' := 8) (i := 0) rfl dX10_areAlike_7 rfl rfl ?_
  refine gj_iload_n C (pc' := 9) (i := 2) rfl dX10_areAlike_8 rfl rfl ?_
  refine gj_iconst C (pc' := 10) (v := 3) rfl dX10_areAlike_9 (by decide) ?_
  refine gj_callVi C (pc' := 13) rfl dX10_areAlike_10 wm_X10_65 uX10_its h (kX10_its _ _ _ _) (by omega) rfl rfl (Nat.le_of_ble_eq_true rfl) (fun v3 w4 h => ?_)
  refine gj_istore C (pc' := 15) (i := 4) (lv' := [_, _, _, _, _]) rfl dX10_areAlike_13 (by decide) rfl rfl ?_
  refine gj_iload_n C (pc' := 16) (i := 3) rfl dX10_areAlike_15 rfl rfl ?_
  refine gj_iload C (pc' := 18) (i := 4) rfl dX10_areAlike_16 rfl ?_
  refine gj_icmp_eq C (pc' := 21) (tgt := 53) rfl dX10_areAlike_18 rfl h (fun h => ?_) (fun h => ?_)
  · refine gj_iconst C (pc' := 54) (v := 0) rfl dX10_areAlike_53 (by decide) ?_
    exact gj_zret C dX10_areAlike_54 h
  · refine gj_aload_n C (pc' := 22) (i := 0) rfl dX10_areAlike_21 rfl rfl ?_
    refine gj_iload_n C (pc' := 23) (i := 3) rfl dX10_areAlike_22 rfl rfl ?_
    refine gj_callVi C (pc' := 26) rfl dX10_areAlike_23 wm_X10_69 uX10_wide h (kX10_wide _ _ _) (by omega) rfl rfl (Nat.le_of_ble_eq_true rfl) (fun v5 w6 h => ?_)
    refine gj_aload_n C (pc' := 27) (i := 0) rfl dX10_areAlike_26 rfl rfl ?_
    refine gj_iload C (pc' := 29) (i := 4) rfl dX10_areAlike_27 rfl ?_
    refine gj_callVi C (pc' := 32) rfl dX10_areAlike_29 wm_X10_69 uX10_wide h (kX10_wide _ _ _) (by omega) rfl rfl (Nat.le_of_ble_eq_true rfl) (fun v7 w8 h => ?_)
    refine gj_icmp_ne C (pc' := 35) (tgt := 53) rfl dX10_areAlike_32 rfl h (fun h => ?_) (fun h => ?_)
    · refine gj_aload_n C (pc' := 36) (i := 0) rfl dX10_areAlike_35 rfl rfl ?_
      refine gj_iload_n C (pc' := 37) (i := 3) rfl dX10_areAlike_36 rfl rfl ?_
      refine gj_callVi C (pc' := 40) rfl dX10_areAlike_37 wm_X10_72 uX10_thick h (kX10_thick _ _ _) (by omega) rfl rfl (Nat.le_of_ble_eq_true rfl) (fun v9 w10 h => ?_)
      refine gj_aload_n C (pc' := 41) (i := 0) rfl dX10_areAlike_40 rfl rfl ?_
      refine gj_iload C (pc' := 43) (i := 4) rfl dX10_areAlike_41 rfl ?_
      refine gj_callVi C (pc' := 46) rfl dX10_areAlike_43 wm_X10_72 uX10_thick h (kX10_thick _ _ _) (by omega) rfl rfl (Nat.le_of_ble_eq_true rfl) (fun v11 w12 h => ?_)
      refine gj_icmp_ne C (pc' := 49) (tgt := 53) rfl dX10_areAlike_46 rfl h (fun h => ?_) (fun h => ?_)
      · refine gj_iconst C (pc' := 50) (v := 1) rfl dX10_areAlike_49 (by decide) ?_
        refine gj_goto C (tgt := 54) dX10_areAlike_50 rfl ?_
        exact gj_zret C dX10_areAlike_54 h
      · refine gj_iconst C (pc' := 54) (v := 0) rfl dX10_areAlike_53 (by decide) ?_
        exact gj_zret C dX10_areAlike_54 h
    · refine gj_iconst C (pc' := 54) (v := 0) rfl dX10_areAlike_53 (by decide) ?_
      exact gj_zret C dX10_areAlike_54 h
set_option maxHeartbeats 4000000 in
set_option maxRecDepth 100000 in
theorem kX10_alike_103 {p : Program} {l : Launch} {e : Env} {s : State} {m : MethodId} {args : Array Value} {below : List Frame} {meth : Method} {c : Code} {D : va_G} {ad : Nat → Nat} {tc : Nat → ClassId} {A : Nat → Prop} (C : gj_C p s m args meth c D ad tc A cX10_alike 6 (some .int) RX10) {r : Int32} {w1 : ab_W} {x1 : Int32} {x2 : Int32} {x3 : Int32} {w : ab_W} (h : sX10_alike_103 x1 x2 x3 w = some (r, w1)) : gj_G p l e (gj_R 3) s m args below meth c D ad tc A 6 (gj_Qi D ad tc A below args s r w1) 103 [none, some (.int x1), some (.int x2), some (.int x3), none, none] [] w := by
  unfold sX10_alike_103 at h
  refine gj_iload_n C (pc' := 104) (i := 1) rfl dX10_alike_103 rfl rfl ?_
  refine gj_if_ne C (pc' := 107) (tgt := 111) rfl dX10_alike_104 rfl h (fun h => ?_) (fun h => ?_)
  · refine gj_iload_n C (pc' := 108) (i := 2) rfl dX10_alike_107 rfl rfl ?_
    refine gj_goto C (tgt := 112) dX10_alike_108 rfl ?_
    exact gj_iret C dX10_alike_112 h
  · refine gj_iload_n C (pc' := 112) (i := 3) rfl dX10_alike_111 rfl rfl ?_
    exact gj_iret C dX10_alike_112 h
set_option maxHeartbeats 4000000 in
set_option maxRecDepth 100000 in
theorem kX10_alike_75 {p : Program} {l : Launch} {e : Env} {s : State} {m : MethodId} {args : Array Value} {below : List Frame} {meth : Method} {c : Code} {D : va_G} {ad : Nat → Nat} {tc : Nat → ClassId} {A : Nat → Prop} (C : gj_C p s m args meth c D ad tc A cX10_alike 6 (some .int) RX10) {r : Int32} {w1 : ab_W} {k30 : Nat → Int32 → Int32 → Int32 → Int32 → ab_W → Option (Int32 × ab_W)} {k45 : Nat → Int32 → Int32 → Int32 → Int32 → Int32 → ab_W → Option (Int32 × ab_W)} (hk30 : ∀ {x0 : Nat} {x1 : Int32} {x2 : Int32} {x3 : Int32} {x4 : Int32} {w : ab_W}, k30 x0 x1 x2 x3 x4 w = some (r, w1) → gj_G p l e (gj_R 3) s m args below meth c D ad tc A 6 (gj_Qi D ad tc A below args s r w1) 30 [some (.ref x0), some (.int x1), some (.int x2), some (.int x3), some (.int x4), none] [] w) (hk45 : ∀ {x0 : Nat} {x1 : Int32} {x2 : Int32} {x3 : Int32} {x4 : Int32} {x5 : Int32} {w : ab_W}, k45 x0 x1 x2 x3 x4 x5 w = some (r, w1) → gj_G p l e (gj_R 3) s m args below meth c D ad tc A 6 (gj_Qi D ad tc A below args s r w1) 45 [some (.ref x0), some (.int x1), some (.int x2), some (.int x3), some (.int x4), some (.int x5)] [] w) {x0 : Nat} {x1 : Int32} {x2 : Int32} {x3 : Int32} {x4 : Int32} {x5 : Int32} {w : ab_W} (h : sX10_alike_75 k30 k45 x0 x1 x2 x3 x4 x5 w = some (r, w1)) : gj_G p l e (gj_R 3) s m args below meth c D ad tc A 6 (gj_Qi D ad tc A below args s r w1) 75 [some (.ref x0), some (.int x1), some (.int x2), some (.int x3), some (.int x4), some (.int x5)] [] w := by
  unfold sX10_alike_75 at h
  refine gj_iinc C (pc' := 78) (i := 5) (v := _ + (-1)) (lv' := [_, _, _, _, _, _]) rfl dX10_alike_75 rfl rfl (by decide) rfl rfl ?_
  refine gj_goto C (tgt := 45) dX10_alike_78 rfl ?_
  refine gj_drop (lv' := [some _, some _, some _, some _, some _, some _]) (And.intro rfl (And.intro rfl (And.intro rfl (And.intro rfl (And.intro rfl (And.intro rfl True.intro)))))) ?_
  exact hk45 h
set_option maxHeartbeats 4000000 in
set_option maxRecDepth 100000 in
theorem kX10_alike_45 {p : Program} {l : Launch} {e : Env} {s : State} {m : MethodId} {args : Array Value} {below : List Frame} {meth : Method} {c : Code} {D : va_G} {ad : Nat → Nat} {tc : Nat → ClassId} {A : Nat → Prop} (C : gj_C p s m args meth c D ad tc A cX10_alike 6 (some .int) RX10) {r : Int32} {w1 : ab_W} {k30 : Nat → Int32 → Int32 → Int32 → Int32 → ab_W → Option (Int32 × ab_W)} (hk30 : ∀ {x0 : Nat} {x1 : Int32} {x2 : Int32} {x3 : Int32} {x4 : Int32} {w : ab_W}, k30 x0 x1 x2 x3 x4 w = some (r, w1) → gj_G p l e (gj_R 3) s m args below meth c D ad tc A 6 (gj_Qi D ad tc A below args s r w1) 30 [some (.ref x0), some (.int x1), some (.int x2), some (.int x3), some (.int x4), none] [] w) : ∀ {n : Nat} {x0 : Nat} {x1 : Int32} {x2 : Int32} {x3 : Int32} {x4 : Int32} {x5 : Int32} {w : ab_W}, sX10_alike_45 k30 n x0 x1 x2 x3 x4 x5 w = some (r, w1) → gj_G p l e (gj_R 3) s m args below meth c D ad tc A 6 (gj_Qi D ad tc A below args s r w1) 45 [some (.ref x0), some (.int x1), some (.int x2), some (.int x3), some (.int x4), some (.int x5)] [] w := by
  intro n
  induction n with
  | zero =>
    intros
    rename_i h
    cases h
  | succ n ih =>
    intro x0 x1 x2 x3 x4 x5 w h
    rw [sX10_alike_45] at h
    refine gj_iload C (pc' := 47) (i := 5) rfl dX10_alike_45 rfl ?_
    refine gj_iload C (pc' := 49) (i := 4) rfl dX10_alike_47 rfl ?_
    refine gj_icmp_le C (pc' := 52) (tgt := 81) rfl dX10_alike_49 rfl h (fun h => ?_) (fun h => ?_)
    · refine gj_aload_n C (pc' := 53) (i := 0) rfl dX10_alike_52 rfl rfl ?_
      refine gj_iload C (pc' := 55) (i := 4) rfl dX10_alike_53 rfl ?_
      refine gj_iload C (pc' := 57) (i := 5) rfl dX10_alike_55 rfl ?_
      refine gj_callVi C (pc' := 60) rfl dX10_alike_57 wm_X10_184 uX10_areAlike h (kX10_areAlike _ _ _ _) (by omega) rfl rfl (Nat.le_of_ble_eq_true rfl) (fun v1 w2 h => ?_)
      refine gj_if_eq C (pc' := 63) (tgt := 75) rfl dX10_alike_60 rfl h (fun h => ?_) (fun h => ?_)
      · refine gj_drop (lv' := [some _, some _, some _, some _, some _, some _]) (And.intro rfl (And.intro rfl (And.intro rfl (And.intro rfl (And.intro rfl (And.intro rfl True.intro)))))) ?_
        exact kX10_alike_75 C (fun h => hk30 h) (fun h => ih h) h
      · refine gj_iinc C (pc' := 66) (i := 2) (v := _ + 1) (lv' := [_, _, _, _, _, _]) rfl dX10_alike_63 rfl rfl (by decide) rfl rfl ?_
        refine gj_bipush C (pc' := 68) (v := 10) rfl dX10_alike_66 (by decide) ?_
        refine gj_iload C (pc' := 70) (i := 4) rfl dX10_alike_68 rfl ?_
        refine gj_imul C (pc' := 71) rfl dX10_alike_70 ?_
        refine gj_iload C (pc' := 73) (i := 5) rfl dX10_alike_71 rfl ?_
        refine gj_iadd C (pc' := 74) rfl dX10_alike_73 ?_
        refine gj_istore_n C (pc' := 75) (i := 3) (lv' := [_, _, _, _, _, _]) rfl dX10_alike_74 rfl (by decide) rfl rfl ?_
        refine gj_drop (lv' := [some _, some _, some _, some _, some _, some _]) (And.intro rfl (And.intro rfl (And.intro rfl (And.intro rfl (And.intro rfl (And.intro rfl True.intro)))))) ?_
        exact kX10_alike_75 C (fun h => hk30 h) (fun h => ih h) h
    · refine gj_iinc C (pc' := 84) (i := 4) (v := _ + (-1)) (lv' := [_, _, _, _, _, _]) rfl dX10_alike_81 rfl rfl (by decide) rfl rfl ?_
      refine gj_goto C (tgt := 30) dX10_alike_84 rfl ?_
      refine gj_drop (lv' := [some _, some _, some _, some _, some _, none]) (And.intro rfl (And.intro rfl (And.intro rfl (And.intro rfl (And.intro rfl True.intro))))) ?_
      exact hk30 h
set_option maxHeartbeats 4000000 in
set_option maxRecDepth 100000 in
theorem kX10_alike_30 {p : Program} {l : Launch} {e : Env} {s : State} {m : MethodId} {args : Array Value} {below : List Frame} {meth : Method} {c : Code} {D : va_G} {ad : Nat → Nat} {tc : Nat → ClassId} {A : Nat → Prop} (C : gj_C p s m args meth c D ad tc A cX10_alike 6 (some .int) RX10) {r : Int32} {w1 : ab_W} : ∀ {n : Nat} {x0 : Nat} {x1 : Int32} {x2 : Int32} {x3 : Int32} {x4 : Int32} {w : ab_W}, sX10_alike_30 n x0 x1 x2 x3 x4 w = some (r, w1) → gj_G p l e (gj_R 3) s m args below meth c D ad tc A 6 (gj_Qi D ad tc A below args s r w1) 30 [some (.ref x0), some (.int x1), some (.int x2), some (.int x3), some (.int x4), none] [] w := by
  intro n
  induction n with
  | zero =>
    intros
    rename_i h
    cases h
  | succ n ih =>
    intro x0 x1 x2 x3 x4 w h
    rw [sX10_alike_30] at h
    refine gj_iload C (pc' := 32) (i := 4) rfl dX10_alike_30 rfl ?_
    refine gj_if_lt C (pc' := 35) (tgt := 87) rfl dX10_alike_32 rfl h (fun h => ?_) (fun h => ?_)
    · refine gj_iload_n C (pc' := 88) (i := 1) rfl dX10_alike_87 rfl rfl ?_
      refine gj_iconst C (pc' := 89) (v := 1) rfl dX10_alike_88 (by decide) ?_
      refine gj_icmp_ne C (pc' := 92) (tgt := 103) rfl dX10_alike_89 rfl h (fun h => ?_) (fun h => ?_)
      · refine gj_iload_n C (pc' := 93) (i := 2) rfl dX10_alike_92 rfl rfl ?_
        refine gj_if_ne C (pc' := 96) (tgt := 103) rfl dX10_alike_93 rfl h (fun h => ?_) (fun h => ?_)
        · refine gj_aload_n C (pc' := 97) (i := 0) rfl dX10_alike_96 rfl rfl ?_
          refine gj_ldc C (pc' := 99) rfl dX10_alike_97 wk_X10_182 ?_
          refine gj_callVi C (pc' := 102) rfl dX10_alike_99 wm_X10_52 uX10_errs h (kX10_errs _ _ _) (by omega) rfl rfl (Nat.le_of_ble_eq_true rfl) (fun v1 w2 h => ?_)
          exact gj_iret C dX10_alike_102 h
        · refine gj_drop (lv' := [none, some _, some _, some _, none, none]) (And.intro rfl (And.intro rfl (And.intro rfl True.intro))) ?_
          exact kX10_alike_103 C h
      · refine gj_drop (lv' := [none, some _, some _, some _, none, none]) (And.intro rfl (And.intro rfl (And.intro rfl True.intro))) ?_
        exact kX10_alike_103 C h
    · refine gj_aload_n C (pc' := 36) (i := 0) rfl dX10_alike_35 rfl rfl ?_
      refine gj_getR C (pc' := 39) rfl dX10_alike_36 wf_X10_7 h (fun v3 h => ?_)
      refine gj_iconst C (pc' := 40) (v := 2) rfl dX10_alike_39 (by decide) ?_
      refine gj_iald C (pc' := 41) rfl dX10_alike_40 h (fun v4 h => ?_)
      refine gj_iconst C (pc' := 42) (v := 1) rfl dX10_alike_41 (by decide) ?_
      refine gj_isub C (pc' := 43) rfl dX10_alike_42 ?_
      refine gj_istore C (pc' := 45) (i := 5) (lv' := [_, _, _, _, _, _]) rfl dX10_alike_43 (by decide) rfl rfl ?_
      refine gj_drop (lv' := [some _, some _, some _, some _, some _, some _]) (And.intro rfl (And.intro rfl (And.intro rfl (And.intro rfl (And.intro rfl (And.intro rfl True.intro)))))) ?_
      exact kX10_alike_45 C (fun h => ih h) h
set_option maxHeartbeats 4000000 in
set_option maxRecDepth 100000 in
theorem kX10_alike : ∀ (x0 : Nat) (x1 : Int32) (w : ab_W) (r : Int32) (w1 : ab_W), sX10_alike x0 x1 w = some (r, w1) → gj_Mi yX10_alike cX10_alike 6 (some .int) 3 [.ref x0, .int x1] w r w1 ∧ ab_is w 10 x0 = true := by
  intro x0 x1 w r w1 h
  unfold sX10_alike at h
  obtain ⟨hi, h⟩ := ab_ite h
  refine ⟨?_, hi⟩
  refine gj_Mi_of RX10 [some (.ref x0), some (.int x1), none, none, none, none] (by decide +kernel) rfl (Nat.le_of_ble_eq_true rfl) rfl (fun p l e s m args below meth c D ad tc A C => ?_)
  refine gj_iload_n C (pc' := 1) (i := 1) rfl dX10_alike_0 rfl rfl ?_
  refine gj_iconst C (pc' := 2) (v := 0) rfl dX10_alike_1 (by decide) ?_
  refine gj_iconst C (pc' := 3) (v := 1) rfl dX10_alike_2 (by decide) ?_
  refine gj_callSi C (pc' := 6) rfl dX10_alike_3 wm_X10_47 uX10_in h (kX10_in _ _ _ _) (by omega) rfl rfl (Nat.le_of_ble_eq_true rfl) (fun v1 w2 h => ?_)
  refine gj_if_ne C (pc' := 9) (tgt := 16) rfl dX10_alike_6 rfl h (fun h => ?_) (fun h => ?_)
  · refine gj_aload_n C (pc' := 10) (i := 0) rfl dX10_alike_9 rfl rfl ?_
    refine gj_ldc C (pc' := 12) rfl dX10_alike_10 wk_X10_51 ?_
    refine gj_callVi C (pc' := 15) rfl dX10_alike_12 wm_X10_52 uX10_errs h (kX10_errs _ _ _) (by omega) rfl rfl (Nat.le_of_ble_eq_true rfl) (fun v3 w4 h => ?_)
    exact gj_iret C dX10_alike_15 h
  · refine gj_iconst C (pc' := 17) (v := 0) rfl dX10_alike_16 (by decide) ?_
    refine gj_istore_n C (pc' := 18) (i := 2) (lv' := [_, _, _, _, _, _]) rfl dX10_alike_17 rfl (by decide) rfl rfl ?_
    refine gj_iconst C (pc' := 19) (v := 0) rfl dX10_alike_18 (by decide) ?_
    refine gj_istore_n C (pc' := 20) (i := 3) (lv' := [_, _, _, _, _, _]) rfl dX10_alike_19 rfl (by decide) rfl rfl ?_
    refine gj_aload_n C (pc' := 21) (i := 0) rfl dX10_alike_20 rfl rfl ?_
    refine gj_getR C (pc' := 24) rfl dX10_alike_21 wf_X10_7 h (fun v5 h => ?_)
    refine gj_iconst C (pc' := 25) (v := 2) rfl dX10_alike_24 (by decide) ?_
    refine gj_iald C (pc' := 26) rfl dX10_alike_25 h (fun v6 h => ?_)
    refine gj_iconst C (pc' := 27) (v := 1) rfl dX10_alike_26 (by decide) ?_
    refine gj_isub C (pc' := 28) rfl dX10_alike_27 ?_
    refine gj_istore C (pc' := 30) (i := 4) (lv' := [_, _, _, _, _, _]) rfl dX10_alike_28 (by decide) rfl rfl ?_
    refine gj_drop (lv' := [some _, some _, some _, some _, some _, none]) (And.intro rfl (And.intro rfl (And.intro rfl (And.intro rfl (And.intro rfl True.intro))))) ?_
    exact kX10_alike_30 C h
set_option maxHeartbeats 4000000 in
set_option maxRecDepth 100000 in
theorem kX10_oneDay_93 {p : Program} {l : Launch} {e : Env} {s : State} {m : MethodId} {args : Array Value} {below : List Frame} {meth : Method} {c : Code} {D : va_G} {ad : Nat → Nat} {tc : Nat → ClassId} {A : Nat → Prop} (C : gj_C p s m args meth c D ad tc A cX10_oneDay 2 none RX10) {w1 : ab_W} {k2 : Nat → Int32 → ab_W → Option (ab_W)} (hk2 : ∀ {x0 : Nat} {x1 : Int32} {w : ab_W}, k2 x0 x1 w = some w1 → gj_G p l e (gj_R 107) s m args below meth c D ad tc A 2 (gj_Qv D ad tc A below args s w1) 2 [some (.ref x0), some (.int x1)] [] w) {x0 : Nat} {x1 : Int32} {w : ab_W} (h : sX10_oneDay_93 k2 x0 x1 w = some w1) : gj_G p l e (gj_R 107) s m args below meth c D ad tc A 2 (gj_Qv D ad tc A below args s w1) 93 [some (.ref x0), some (.int x1)] [] w := by
  unfold sX10_oneDay_93 at h
  refine gj_iinc C (pc' := 96) (i := 1) (v := _ + 1) (lv' := [_, _]) rfl dX10_oneDay_93 rfl rfl (by decide) rfl rfl ?_
  refine gj_goto C (tgt := 2) dX10_oneDay_96 rfl ?_
  refine gj_drop (lv' := [some _, some _]) (And.intro rfl (And.intro rfl True.intro)) ?_
  exact hk2 h
set_option maxHeartbeats 4000000 in
set_option maxRecDepth 100000 in
theorem kX10_oneDay_2 {p : Program} {l : Launch} {e : Env} {s : State} {m : MethodId} {args : Array Value} {below : List Frame} {meth : Method} {c : Code} {D : va_G} {ad : Nat → Nat} {tc : Nat → ClassId} {A : Nat → Prop} (C : gj_C p s m args meth c D ad tc A cX10_oneDay 2 none RX10) {w1 : ab_W} : ∀ {n : Nat} {x0 : Nat} {x1 : Int32} {w : ab_W}, sX10_oneDay_2 n x0 x1 w = some w1 → gj_G p l e (gj_R 107) s m args below meth c D ad tc A 2 (gj_Qv D ad tc A below args s w1) 2 [some (.ref x0), some (.int x1)] [] w := by
  intro n
  induction n with
  | zero =>
    intros
    rename_i h
    cases h
  | succ n ih =>
    intro x0 x1 w h
    rw [sX10_oneDay_2] at h
    refine gj_iload_n C (pc' := 3) (i := 1) rfl dX10_oneDay_2 rfl rfl ?_
    refine gj_aload_n C (pc' := 4) (i := 0) rfl dX10_oneDay_3 rfl rfl ?_
    refine gj_getR C (pc' := 7) rfl dX10_oneDay_4 wf_X10_7 h (fun v1 h => ?_)
    refine gj_iconst C (pc' := 8) (v := 2) rfl dX10_oneDay_7 (by decide) ?_
    refine gj_iald C (pc' := 9) rfl dX10_oneDay_8 h (fun v2 h => ?_)
    refine gj_icmp_ge C (pc' := 12) (tgt := 99) rfl dX10_oneDay_9 rfl h (fun h => ?_) (fun h => ?_)
    · refine gj_aload_n C (pc' := 13) (i := 0) rfl dX10_oneDay_12 rfl rfl ?_
      refine gj_iload_n C (pc' := 14) (i := 1) rfl dX10_oneDay_13 rfl rfl ?_
      refine gj_iconst C (pc' := 15) (v := 4) rfl dX10_oneDay_14 (by decide) ?_
      refine gj_callVi C (pc' := 18) rfl dX10_oneDay_15 wm_X10_65 uX10_its h (kX10_its _ _ _ _) (by omega) rfl rfl (Nat.le_of_ble_eq_true rfl) (fun v3 w4 h => ?_)
      refine gj_iconst C (pc' := 19) (v := 1) rfl dX10_oneDay_18 (by decide) ?_
      refine gj_icmp_ne C (pc' := 22) (tgt := 93) rfl dX10_oneDay_19 rfl h (fun h => ?_) (fun h => ?_)
      · refine gj_aload_n C (pc' := 23) (i := 0) rfl dX10_oneDay_22 rfl rfl ?_
        refine gj_iload_n C (pc' := 24) (i := 1) rfl dX10_oneDay_23 rfl rfl ?_
        refine gj_iconst C (pc' := 25) (v := 5) rfl dX10_oneDay_24 (by decide) ?_
        refine gj_aload_n C (pc' := 26) (i := 0) rfl dX10_oneDay_25 rfl rfl ?_
        refine gj_iload_n C (pc' := 27) (i := 1) rfl dX10_oneDay_26 rfl rfl ?_
        refine gj_iconst C (pc' := 28) (v := 5) rfl dX10_oneDay_27 (by decide) ?_
        refine gj_callVi C (pc' := 31) rfl dX10_oneDay_28 wm_X10_65 uX10_its h (kX10_its _ _ _ _) (by omega) rfl rfl (Nat.le_of_ble_eq_true rfl) (fun v5 w6 h => ?_)
        refine gj_aload_n C (pc' := 32) (i := 0) rfl dX10_oneDay_31 rfl rfl ?_
        refine gj_iload_n C (pc' := 33) (i := 1) rfl dX10_oneDay_32 rfl rfl ?_
        refine gj_callVi C (pc' := 36) rfl dX10_oneDay_33 wm_X10_187 uX10_goes h (kX10_goes _ _ _) (by omega) rfl rfl (Nat.le_of_ble_eq_true rfl) (fun v7 w8 h => ?_)
        refine gj_iadd C (pc' := 37) rfl dX10_oneDay_36 ?_
        refine gj_iconst C (pc' := 38) (v := 0) rfl dX10_oneDay_37 (by decide) ?_
        refine gj_sipush C (pc' := 41) (v := 999) rfl dX10_oneDay_38 (by decide) ?_
        refine gj_callSi C (pc' := 44) rfl dX10_oneDay_41 wm_X10_153 uX10_held h (kX10_held _ _ _ _) (by omega) rfl rfl (Nat.le_of_ble_eq_true rfl) (fun v9 w10 h => ?_)
        refine gj_callVv C (pc' := 47) rfl dX10_oneDay_44 wm_X10_57 uX10_gets h (kX10_gets _ _ _ _ _) (by omega) rfl rfl (Nat.le_of_ble_eq_true rfl) (fun w11 h => ?_)
        refine gj_aload_n C (pc' := 48) (i := 0) rfl dX10_oneDay_47 rfl rfl ?_
        refine gj_iload_n C (pc' := 49) (i := 1) rfl dX10_oneDay_48 rfl rfl ?_
        refine gj_iconst C (pc' := 50) (v := 2) rfl dX10_oneDay_49 (by decide) ?_
        refine gj_aload_n C (pc' := 51) (i := 0) rfl dX10_oneDay_50 rfl rfl ?_
        refine gj_iload_n C (pc' := 52) (i := 1) rfl dX10_oneDay_51 rfl rfl ?_
        refine gj_iconst C (pc' := 53) (v := 2) rfl dX10_oneDay_52 (by decide) ?_
        refine gj_callVi C (pc' := 56) rfl dX10_oneDay_53 wm_X10_65 uX10_its h (kX10_its _ _ _ _) (by omega) rfl rfl (Nat.le_of_ble_eq_true rfl) (fun v12 w13 h => ?_)
        refine gj_aload_n C (pc' := 57) (i := 0) rfl dX10_oneDay_56 rfl rfl ?_
        refine gj_iconst C (pc' := 58) (v := 1) rfl dX10_oneDay_57 (by decide) ?_
        refine gj_aload_n C (pc' := 59) (i := 0) rfl dX10_oneDay_58 rfl rfl ?_
        refine gj_iload_n C (pc' := 60) (i := 1) rfl dX10_oneDay_59 rfl rfl ?_
        refine gj_iconst C (pc' := 61) (v := 2) rfl dX10_oneDay_60 (by decide) ?_
        refine gj_callVi C (pc' := 64) rfl dX10_oneDay_61 wm_X10_65 uX10_its h (kX10_its _ _ _ _) (by omega) rfl rfl (Nat.le_of_ble_eq_true rfl) (fun v14 w15 h => ?_)
        refine gj_aload_n C (pc' := 65) (i := 0) rfl dX10_oneDay_64 rfl rfl ?_
        refine gj_iload_n C (pc' := 66) (i := 1) rfl dX10_oneDay_65 rfl rfl ?_
        refine gj_iconst C (pc' := 67) (v := 5) rfl dX10_oneDay_66 (by decide) ?_
        refine gj_callVi C (pc' := 70) rfl dX10_oneDay_67 wm_X10_65 uX10_its h (kX10_its _ _ _ _) (by omega) rfl rfl (Nat.le_of_ble_eq_true rfl) (fun v16 w17 h => ?_)
        refine gj_aload_n C (pc' := 71) (i := 0) rfl dX10_oneDay_70 rfl rfl ?_
        refine gj_getR C (pc' := 74) rfl dX10_oneDay_71 wf_X10_7 h (fun v18 h => ?_)
        refine gj_iconst C (pc' := 75) (v := 0) rfl dX10_oneDay_74 (by decide) ?_
        refine gj_iald C (pc' := 76) rfl dX10_oneDay_75 h (fun v19 h => ?_)
        refine gj_bipush C (pc' := 78) (v := 7) rfl dX10_oneDay_76 (by decide) ?_
        refine gj_irem C (pc' := 79) rfl dX10_oneDay_78 h (fun v20 h => ?_)
        refine gj_callVi C (pc' := 82) rfl dX10_oneDay_79 wm_X10_157 uX10_lawOf h (kX10_lawOf _ _ _ _ _ _) (by omega) rfl rfl (Nat.le_of_ble_eq_true rfl) (fun v21 w22 h => ?_)
        refine gj_isub C (pc' := 83) rfl dX10_oneDay_82 ?_
        refine gj_iconst C (pc' := 84) (v := 0) rfl dX10_oneDay_83 (by decide) ?_
        refine gj_sipush C (pc' := 87) (v := 9999) rfl dX10_oneDay_84 (by decide) ?_
        refine gj_callSi C (pc' := 90) rfl dX10_oneDay_87 wm_X10_153 uX10_held h (kX10_held _ _ _ _) (by omega) rfl rfl (Nat.le_of_ble_eq_true rfl) (fun v23 w24 h => ?_)
        refine gj_callVv C (pc' := 93) rfl dX10_oneDay_90 wm_X10_57 uX10_gets h (kX10_gets _ _ _ _ _) (by omega) rfl rfl (Nat.le_of_ble_eq_true rfl) (fun w25 h => ?_)
        refine gj_drop (lv' := [some _, some _]) (And.intro rfl (And.intro rfl True.intro)) ?_
        exact kX10_oneDay_93 C (fun h => ih h) h
      · refine gj_drop (lv' := [some _, some _]) (And.intro rfl (And.intro rfl True.intro)) ?_
        exact kX10_oneDay_93 C (fun h => ih h) h
    · refine gj_aload_n C (pc' := 100) (i := 0) rfl dX10_oneDay_99 rfl rfl ?_
      refine gj_getR C (pc' := 103) rfl dX10_oneDay_100 wf_X10_7 h (fun v26 h => ?_)
      refine gj_iconst C (pc' := 104) (v := 0) rfl dX10_oneDay_103 (by decide) ?_
      refine gj_dup2 C (pc' := 105) rfl dX10_oneDay_104 rfl rfl ?_
      refine gj_iald C (pc' := 106) rfl dX10_oneDay_105 h (fun v27 h => ?_)
      refine gj_iconst C (pc' := 107) (v := 1) rfl dX10_oneDay_106 (by decide) ?_
      refine gj_iadd C (pc' := 108) rfl dX10_oneDay_107 ?_
      refine gj_iast C (pc' := 109) rfl dX10_oneDay_108 h (fun w28 h => ?_)
      exact gj_vret C dX10_oneDay_109 h
set_option maxHeartbeats 4000000 in
set_option maxRecDepth 100000 in
theorem kX10_oneDay : ∀ (x0 : Nat) (w : ab_W) (w1 : ab_W), sX10_oneDay x0 w = some w1 → gj_Mv yX10_oneDay cX10_oneDay 2 none 107 [.ref x0] w w1 ∧ ab_is w 10 x0 = true := by
  intro x0 w w1 h
  unfold sX10_oneDay at h
  obtain ⟨hi, h⟩ := ab_ite h
  refine ⟨?_, hi⟩
  refine gj_Mv_of RX10 [some (.ref x0), none] (by decide +kernel) rfl (Nat.le_of_ble_eq_true rfl) rfl (fun p l e s m args below meth c D ad tc A C => ?_)
  refine gj_iconst C (pc' := 1) (v := 0) rfl dX10_oneDay_0 (by decide) ?_
  refine gj_istore_n C (pc' := 2) (i := 1) (lv' := [_, _]) rfl dX10_oneDay_1 rfl (by decide) rfl rfl ?_
  refine gj_drop (lv' := [some _, some _]) (And.intro rfl (And.intro rfl True.intro)) ?_
  exact kX10_oneDay_2 C h
set_option maxHeartbeats 4000000 in
set_option maxRecDepth 100000 in
theorem kX10_passes_2 {p : Program} {l : Launch} {e : Env} {s : State} {m : MethodId} {args : Array Value} {below : List Frame} {meth : Method} {c : Code} {D : va_G} {ad : Nat → Nat} {tc : Nat → ClassId} {A : Nat → Prop} (C : gj_C p s m args meth c D ad tc A cX10_passes 3 none RX10) {w1 : ab_W} : ∀ {n : Nat} {x0 : Nat} {x1 : Int32} {x2 : Int32} {w : ab_W}, sX10_passes_2 n x0 x1 x2 w = some w1 → gj_G p l e (gj_R 108) s m args below meth c D ad tc A 3 (gj_Qv D ad tc A below args s w1) 2 [some (.ref x0), some (.int x1), some (.int x2)] [] w := by
  intro n
  induction n with
  | zero =>
    intros
    rename_i h
    cases h
  | succ n ih =>
    intro x0 x1 x2 w h
    rw [sX10_passes_2] at h
    refine gj_iload_n C (pc' := 3) (i := 2) rfl dX10_passes_2 rfl rfl ?_
    refine gj_iload_n C (pc' := 4) (i := 1) rfl dX10_passes_3 rfl rfl ?_
    refine gj_icmp_ge C (pc' := 7) (tgt := 17) rfl dX10_passes_4 rfl h (fun h => ?_) (fun h => ?_)
    · refine gj_aload_n C (pc' := 8) (i := 0) rfl dX10_passes_7 rfl rfl ?_
      refine gj_callVv C (pc' := 11) rfl dX10_passes_8 wm_X10_190 uX10_oneDay h (kX10_oneDay _ _) (by omega) rfl rfl (Nat.le_of_ble_eq_true rfl) (fun w1 h => ?_)
      refine gj_iinc C (pc' := 14) (i := 2) (v := _ + 1) (lv' := [_, _, _]) rfl dX10_passes_11 rfl rfl (by decide) rfl rfl ?_
      refine gj_goto C (tgt := 2) dX10_passes_14 rfl ?_
      refine gj_drop (lv' := [some _, some _, some _]) (And.intro rfl (And.intro rfl (And.intro rfl True.intro))) ?_
      exact ih h
    · exact gj_vret C dX10_passes_17 h
set_option maxHeartbeats 4000000 in
set_option maxRecDepth 100000 in
theorem kX10_passes : ∀ (x0 : Nat) (x1 : Int32) (w : ab_W) (w1 : ab_W), sX10_passes x0 x1 w = some w1 → gj_Mv yX10_passes cX10_passes 3 none 108 [.ref x0, .int x1] w w1 ∧ ab_is w 10 x0 = true := by
  intro x0 x1 w w1 h
  unfold sX10_passes at h
  obtain ⟨hi, h⟩ := ab_ite h
  refine ⟨?_, hi⟩
  refine gj_Mv_of RX10 [some (.ref x0), some (.int x1), none] (by decide +kernel) rfl (Nat.le_of_ble_eq_true rfl) rfl (fun p l e s m args below meth c D ad tc A C => ?_)
  refine gj_iconst C (pc' := 1) (v := 0) rfl dX10_passes_0 (by decide) ?_
  refine gj_istore_n C (pc' := 2) (i := 2) (lv' := [_, _, _]) rfl dX10_passes_1 rfl (by decide) rfl rfl ?_
  refine gj_drop (lv' := [some _, some _, some _]) (And.intro rfl (And.intro rfl (And.intro rfl True.intro))) ?_
  exact kX10_passes_2 C h
set_option maxHeartbeats 4000000 in
set_option maxRecDepth 100000 in
theorem kX10_allDebt_4 {p : Program} {l : Launch} {e : Env} {s : State} {m : MethodId} {args : Array Value} {below : List Frame} {meth : Method} {c : Code} {D : va_G} {ad : Nat → Nat} {tc : Nat → ClassId} {A : Nat → Prop} (C : gj_C p s m args meth c D ad tc A cX10_allDebt 3 (some .int) RX10) {r : Int32} {w1 : ab_W} : ∀ {n : Nat} {x0 : Nat} {x1 : Int32} {x2 : Int32} {w : ab_W}, sX10_allDebt_4 n x0 x1 x2 w = some (r, w1) → gj_G p l e (gj_R 1) s m args below meth c D ad tc A 3 (gj_Qi D ad tc A below args s r w1) 4 [some (.ref x0), some (.int x1), some (.int x2)] [] w := by
  intro n
  induction n with
  | zero =>
    intros
    rename_i h
    cases h
  | succ n ih =>
    intro x0 x1 x2 w h
    rw [sX10_allDebt_4] at h
    refine gj_iload_n C (pc' := 5) (i := 2) rfl dX10_allDebt_4 rfl rfl ?_
    refine gj_aload_n C (pc' := 6) (i := 0) rfl dX10_allDebt_5 rfl rfl ?_
    refine gj_getR C (pc' := 9) rfl dX10_allDebt_6 wf_X10_7 h (fun v1 h => ?_)
    refine gj_iconst C (pc' := 10) (v := 2) rfl dX10_allDebt_9 (by decide) ?_
    refine gj_iald C (pc' := 11) rfl dX10_allDebt_10 h (fun v2 h => ?_)
    refine gj_icmp_ge C (pc' := 14) (tgt := 29) rfl dX10_allDebt_11 rfl h (fun h => ?_) (fun h => ?_)
    · refine gj_iload_n C (pc' := 15) (i := 1) rfl dX10_allDebt_14 rfl rfl ?_
      refine gj_aload_n C (pc' := 16) (i := 0) rfl dX10_allDebt_15 rfl rfl ?_
      refine gj_iload_n C (pc' := 17) (i := 2) rfl dX10_allDebt_16 rfl rfl ?_
      refine gj_iconst C (pc' := 18) (v := 2) rfl dX10_allDebt_17 (by decide) ?_
      refine gj_callVi C (pc' := 21) rfl dX10_allDebt_18 wm_X10_65 uX10_its h (kX10_its _ _ _ _) (by omega) rfl rfl (Nat.le_of_ble_eq_true rfl) (fun v3 w4 h => ?_)
      refine gj_iadd C (pc' := 22) rfl dX10_allDebt_21 ?_
      refine gj_istore_n C (pc' := 23) (i := 1) (lv' := [_, _, _]) rfl dX10_allDebt_22 rfl (by decide) rfl rfl ?_
      refine gj_iinc C (pc' := 26) (i := 2) (v := _ + 1) (lv' := [_, _, _]) rfl dX10_allDebt_23 rfl rfl (by decide) rfl rfl ?_
      refine gj_goto C (tgt := 4) dX10_allDebt_26 rfl ?_
      refine gj_drop (lv' := [some _, some _, some _]) (And.intro rfl (And.intro rfl (And.intro rfl True.intro))) ?_
      exact ih h
    · refine gj_iload_n C (pc' := 30) (i := 1) rfl dX10_allDebt_29 rfl rfl ?_
      exact gj_iret C dX10_allDebt_30 h
set_option maxHeartbeats 4000000 in
set_option maxRecDepth 100000 in
theorem kX10_allDebt : ∀ (x0 : Nat) (w : ab_W) (r : Int32) (w1 : ab_W), sX10_allDebt x0 w = some (r, w1) → gj_Mi yX10_allDebt cX10_allDebt 3 (some .int) 1 [.ref x0] w r w1 ∧ ab_is w 10 x0 = true := by
  intro x0 w r w1 h
  unfold sX10_allDebt at h
  obtain ⟨hi, h⟩ := ab_ite h
  refine ⟨?_, hi⟩
  refine gj_Mi_of RX10 [some (.ref x0), none, none] (by decide +kernel) rfl (Nat.le_of_ble_eq_true rfl) rfl (fun p l e s m args below meth c D ad tc A C => ?_)
  refine gj_iconst C (pc' := 1) (v := 0) rfl dX10_allDebt_0 (by decide) ?_
  refine gj_istore_n C (pc' := 2) (i := 1) (lv' := [_, _, _]) rfl dX10_allDebt_1 rfl (by decide) rfl rfl ?_
  refine gj_iconst C (pc' := 3) (v := 0) rfl dX10_allDebt_2 (by decide) ?_
  refine gj_istore_n C (pc' := 4) (i := 2) (lv' := [_, _, _]) rfl dX10_allDebt_3 rfl (by decide) rfl rfl ?_
  refine gj_drop (lv' := [some _, some _, some _]) (And.intro rfl (And.intro rfl (And.intro rfl True.intro))) ?_
  exact kX10_allDebt_4 C h
set_option maxHeartbeats 4000000 in
set_option maxRecDepth 100000 in
theorem kX10_days : ∀ (x0 : Nat) (x1 : Int32) (w : ab_W) (r : Int32) (w1 : ab_W), sX10_days x0 x1 w = some (r, w1) → gj_Mi yX10_days cX10_days 2 (some .int) 109 [.ref x0, .int x1] w r w1 ∧ ab_is w 10 x0 = true := by
  intro x0 x1 w r w1 h
  unfold sX10_days at h
  obtain ⟨hi, h⟩ := ab_ite h
  refine ⟨?_, hi⟩
  refine gj_Mi_of RX10 [some (.ref x0), some (.int x1)] (by decide +kernel) rfl (Nat.le_of_ble_eq_true rfl) rfl (fun p l e s m args below meth c D ad tc A C => ?_)
  refine gj_iload_n C (pc' := 1) (i := 1) rfl dX10_days_0 rfl rfl ?_
  refine gj_iconst C (pc' := 2) (v := 1) rfl dX10_days_1 (by decide) ?_
  refine gj_bipush C (pc' := 4) (v := 60) rfl dX10_days_2 (by decide) ?_
  refine gj_callSi C (pc' := 7) rfl dX10_days_4 wm_X10_47 uX10_in h (kX10_in _ _ _ _) (by omega) rfl rfl (Nat.le_of_ble_eq_true rfl) (fun v1 w2 h => ?_)
  refine gj_if_ne C (pc' := 10) (tgt := 17) rfl dX10_days_7 rfl h (fun h => ?_) (fun h => ?_)
  · refine gj_aload_n C (pc' := 11) (i := 0) rfl dX10_days_10 rfl rfl ?_
    refine gj_ldc C (pc' := 13) rfl dX10_days_11 wk_X10_51 ?_
    refine gj_callVi C (pc' := 16) rfl dX10_days_13 wm_X10_52 uX10_errs h (kX10_errs _ _ _) (by omega) rfl rfl (Nat.le_of_ble_eq_true rfl) (fun v3 w4 h => ?_)
    exact gj_iret C dX10_days_16 h
  · refine gj_aload_n C (pc' := 18) (i := 0) rfl dX10_days_17 rfl rfl ?_
    refine gj_getR C (pc' := 21) rfl dX10_days_18 wf_X10_7 h (fun v5 h => ?_)
    refine gj_iconst C (pc' := 22) (v := 0) rfl dX10_days_21 (by decide) ?_
    refine gj_iald C (pc' := 23) rfl dX10_days_22 h (fun v6 h => ?_)
    refine gj_iload_n C (pc' := 24) (i := 1) rfl dX10_days_23 rfl rfl ?_
    refine gj_iadd C (pc' := 25) rfl dX10_days_24 ?_
    refine gj_sipush C (pc' := 28) (v := 9999) rfl dX10_days_25 (by decide) ?_
    refine gj_icmp_le C (pc' := 31) (tgt := 38) rfl dX10_days_28 rfl h (fun h => ?_) (fun h => ?_)
    · refine gj_aload_n C (pc' := 32) (i := 0) rfl dX10_days_31 rfl rfl ?_
      refine gj_ldc C (pc' := 34) rfl dX10_days_32 wk_X10_183 ?_
      refine gj_callVi C (pc' := 37) rfl dX10_days_34 wm_X10_52 uX10_errs h (kX10_errs _ _ _) (by omega) rfl rfl (Nat.le_of_ble_eq_true rfl) (fun v7 w8 h => ?_)
      exact gj_iret C dX10_days_37 h
    · refine gj_aload_n C (pc' := 39) (i := 0) rfl dX10_days_38 rfl rfl ?_
      refine gj_iload_n C (pc' := 40) (i := 1) rfl dX10_days_39 rfl rfl ?_
      refine gj_callVv C (pc' := 43) rfl dX10_days_40 wm_X10_193 uX10_passes h (kX10_passes _ _ _) (by omega) rfl rfl (Nat.le_of_ble_eq_true rfl) (fun w9 h => ?_)
      refine gj_aload_n C (pc' := 44) (i := 0) rfl dX10_days_43 rfl rfl ?_
      refine gj_callVi C (pc' := 47) rfl dX10_days_44 wm_X10_196 uX10_allDebt h (kX10_allDebt _ _) (by omega) rfl rfl (Nat.le_of_ble_eq_true rfl) (fun v10 w11 h => ?_)
      exact gj_iret C dX10_days_47 h
set_option maxHeartbeats 4000000 in
set_option maxRecDepth 100000 in
theorem kX10_drawn : ∀ (x0 : Nat) (x1 : Int32) (w : ab_W) (r : Int32) (w1 : ab_W), sX10_drawn x0 x1 w = some (r, w1) → gj_Mi yX10_drawn cX10_drawn 2 (some .int) 0 [.ref x0, .int x1] w r w1 ∧ ab_is w 10 x0 = true := by
  intro x0 x1 w r w1 h
  unfold sX10_drawn at h
  obtain ⟨hi, h⟩ := ab_ite h
  refine ⟨?_, hi⟩
  refine gj_Mi_of RX10 [some (.ref x0), some (.int x1)] (by decide +kernel) rfl (Nat.le_of_ble_eq_true rfl) rfl (fun p l e s m args below meth c D ad tc A C => ?_)
  refine gj_aload_n C (pc' := 1) (i := 0) rfl dX10_drawn_0 rfl rfl ?_
  refine gj_getR C (pc' := 4) rfl dX10_drawn_1 wf_X10_7 h (fun v1 h => ?_)
  refine gj_iconst C (pc' := 5) (v := 1) rfl dX10_drawn_4 (by decide) ?_
  refine gj_aload_n C (pc' := 6) (i := 0) rfl dX10_drawn_5 rfl rfl ?_
  refine gj_getR C (pc' := 9) rfl dX10_drawn_6 wf_X10_7 h (fun v2 h => ?_)
  refine gj_iconst C (pc' := 10) (v := 1) rfl dX10_drawn_9 (by decide) ?_
  refine gj_iald C (pc' := 11) rfl dX10_drawn_10 h (fun v3 h => ?_)
  refine gj_ldc C (pc' := 13) rfl dX10_drawn_11 wk_X10_199 ?_
  refine gj_imul C (pc' := 14) rfl dX10_drawn_13 ?_
  refine gj_sipush C (pc' := 17) (v := 12345) rfl dX10_drawn_14 (by decide) ?_
  refine gj_iadd C (pc' := 18) rfl dX10_drawn_17 ?_
  refine gj_iast C (pc' := 19) rfl dX10_drawn_18 h (fun w4 h => ?_)
  refine gj_aload_n C (pc' := 20) (i := 0) rfl dX10_drawn_19 rfl rfl ?_
  refine gj_getR C (pc' := 23) rfl dX10_drawn_20 wf_X10_7 h (fun v5 h => ?_)
  refine gj_iconst C (pc' := 24) (v := 1) rfl dX10_drawn_23 (by decide) ?_
  refine gj_iald C (pc' := 25) rfl dX10_drawn_24 h (fun v6 h => ?_)
  refine gj_bipush C (pc' := 27) (v := 8) rfl dX10_drawn_25 (by decide) ?_
  refine gj_iushr C (pc' := 28) rfl dX10_drawn_27 ?_
  refine gj_iload_n C (pc' := 29) (i := 1) rfl dX10_drawn_28 rfl rfl ?_
  refine gj_irem C (pc' := 30) rfl dX10_drawn_29 h (fun v7 h => ?_)
  exact gj_iret C dX10_drawn_30 h
set_option maxHeartbeats 4000000 in
set_option maxRecDepth 100000 in
theorem kX10_loose_40 {p : Program} {l : Launch} {e : Env} {s : State} {m : MethodId} {args : Array Value} {below : List Frame} {meth : Method} {c : Code} {D : va_G} {ad : Nat → Nat} {tc : Nat → ClassId} {A : Nat → Prop} (C : gj_C p s m args meth c D ad tc A cX10_loose 3 (some .int) RX10) {r : Int32} {w1 : ab_W} : ∀ {n : Nat} {x0 : Nat} {x1 : Int32} {x2 : Int32} {w : ab_W}, sX10_loose_40 n x0 x1 x2 w = some (r, w1) → gj_G p l e (gj_R 108) s m args below meth c D ad tc A 3 (gj_Qi D ad tc A below args s r w1) 40 [some (.ref x0), some (.int x1), some (.int x2)] [] w := by
  intro n
  induction n with
  | zero =>
    intros
    rename_i h
    cases h
  | succ n ih =>
    intro x0 x1 x2 w h
    rw [sX10_loose_40] at h
    refine gj_iload_n C (pc' := 41) (i := 2) rfl dX10_loose_40 rfl rfl ?_
    refine gj_iload_n C (pc' := 42) (i := 1) rfl dX10_loose_41 rfl rfl ?_
    refine gj_icmp_ge C (pc' := 45) (tgt := 68) rfl dX10_loose_42 rfl h (fun h => ?_) (fun h => ?_)
    · refine gj_aload_n C (pc' := 46) (i := 0) rfl dX10_loose_45 rfl rfl ?_
      refine gj_getR C (pc' := 49) rfl dX10_loose_46 wf_X10_7 h (fun v1 h => ?_)
      refine gj_bipush C (pc' := 51) (v := 7) rfl dX10_loose_49 (by decide) ?_
      refine gj_aload_n C (pc' := 52) (i := 0) rfl dX10_loose_51 rfl rfl ?_
      refine gj_bipush C (pc' := 54) (v := 10) rfl dX10_loose_52 (by decide) ?_
      refine gj_callVi C (pc' := 57) rfl dX10_loose_54 wm_X10_200 uX10_drawn h (kX10_drawn _ _ _) (by omega) rfl rfl (Nat.le_of_ble_eq_true rfl) (fun v2 w3 h => ?_)
      refine gj_iast C (pc' := 58) rfl dX10_loose_57 h (fun w4 h => ?_)
      refine gj_aload_n C (pc' := 59) (i := 0) rfl dX10_loose_58 rfl rfl ?_
      refine gj_callVv C (pc' := 62) rfl dX10_loose_59 wm_X10_190 uX10_oneDay h (kX10_oneDay _ _) (by omega) rfl rfl (Nat.le_of_ble_eq_true rfl) (fun w5 h => ?_)
      refine gj_iinc C (pc' := 65) (i := 2) (v := _ + 1) (lv' := [_, _, _]) rfl dX10_loose_62 rfl rfl (by decide) rfl rfl ?_
      refine gj_goto C (tgt := 40) dX10_loose_65 rfl ?_
      refine gj_drop (lv' := [some _, some _, some _]) (And.intro rfl (And.intro rfl (And.intro rfl True.intro))) ?_
      exact ih h
    · refine gj_aload_n C (pc' := 69) (i := 0) rfl dX10_loose_68 rfl rfl ?_
      refine gj_callVi C (pc' := 72) rfl dX10_loose_69 wm_X10_196 uX10_allDebt h (kX10_allDebt _ _) (by omega) rfl rfl (Nat.le_of_ble_eq_true rfl) (fun v6 w7 h => ?_)
      exact gj_iret C dX10_loose_72 h
set_option maxHeartbeats 4000000 in
set_option maxRecDepth 100000 in
theorem kX10_loose : ∀ (x0 : Nat) (x1 : Int32) (w : ab_W) (r : Int32) (w1 : ab_W), sX10_loose x0 x1 w = some (r, w1) → gj_Mi yX10_loose cX10_loose 3 (some .int) 108 [.ref x0, .int x1] w r w1 ∧ ab_is w 10 x0 = true := by
  intro x0 x1 w r w1 h
  unfold sX10_loose at h
  obtain ⟨hi, h⟩ := ab_ite h
  refine ⟨?_, hi⟩
  refine gj_Mi_of RX10 [some (.ref x0), some (.int x1), none] (by decide +kernel) rfl (Nat.le_of_ble_eq_true rfl) rfl (fun p l e s m args below meth c D ad tc A C => ?_)
  refine gj_iload_n C (pc' := 1) (i := 1) rfl dX10_loose_0 rfl rfl ?_
  refine gj_iconst C (pc' := 2) (v := 1) rfl dX10_loose_1 (by decide) ?_
  refine gj_bipush C (pc' := 4) (v := 40) rfl dX10_loose_2 (by decide) ?_
  refine gj_callSi C (pc' := 7) rfl dX10_loose_4 wm_X10_47 uX10_in h (kX10_in _ _ _ _) (by omega) rfl rfl (Nat.le_of_ble_eq_true rfl) (fun v1 w2 h => ?_)
  refine gj_if_ne C (pc' := 10) (tgt := 17) rfl dX10_loose_7 rfl h (fun h => ?_) (fun h => ?_)
  · refine gj_aload_n C (pc' := 11) (i := 0) rfl dX10_loose_10 rfl rfl ?_
    refine gj_ldc C (pc' := 13) rfl dX10_loose_11 wk_X10_51 ?_
    refine gj_callVi C (pc' := 16) rfl dX10_loose_13 wm_X10_52 uX10_errs h (kX10_errs _ _ _) (by omega) rfl rfl (Nat.le_of_ble_eq_true rfl) (fun v3 w4 h => ?_)
    exact gj_iret C dX10_loose_16 h
  · refine gj_aload_n C (pc' := 18) (i := 0) rfl dX10_loose_17 rfl rfl ?_
    refine gj_getR C (pc' := 21) rfl dX10_loose_18 wf_X10_7 h (fun v5 h => ?_)
    refine gj_iconst C (pc' := 22) (v := 0) rfl dX10_loose_21 (by decide) ?_
    refine gj_iald C (pc' := 23) rfl dX10_loose_22 h (fun v6 h => ?_)
    refine gj_iload_n C (pc' := 24) (i := 1) rfl dX10_loose_23 rfl rfl ?_
    refine gj_iadd C (pc' := 25) rfl dX10_loose_24 ?_
    refine gj_sipush C (pc' := 28) (v := 9999) rfl dX10_loose_25 (by decide) ?_
    refine gj_icmp_le C (pc' := 31) (tgt := 38) rfl dX10_loose_28 rfl h (fun h => ?_) (fun h => ?_)
    · refine gj_aload_n C (pc' := 32) (i := 0) rfl dX10_loose_31 rfl rfl ?_
      refine gj_ldc C (pc' := 34) rfl dX10_loose_32 wk_X10_183 ?_
      refine gj_callVi C (pc' := 37) rfl dX10_loose_34 wm_X10_52 uX10_errs h (kX10_errs _ _ _) (by omega) rfl rfl (Nat.le_of_ble_eq_true rfl) (fun v7 w8 h => ?_)
      exact gj_iret C dX10_loose_37 h
    · refine gj_iconst C (pc' := 39) (v := 0) rfl dX10_loose_38 (by decide) ?_
      refine gj_istore_n C (pc' := 40) (i := 2) (lv' := [_, _, _]) rfl dX10_loose_39 rfl (by decide) rfl rfl ?_
      refine gj_drop (lv' := [some _, some _, some _]) (And.intro rfl (And.intro rfl (And.intro rfl True.intro))) ?_
      exact kX10_loose_40 C h
set_option maxHeartbeats 4000000 in
set_option maxRecDepth 100000 in
theorem kX10_setOf_47 {p : Program} {l : Launch} {e : Env} {s : State} {m : MethodId} {args : Array Value} {below : List Frame} {meth : Method} {c : Code} {D : va_G} {ad : Nat → Nat} {tc : Nat → ClassId} {A : Nat → Prop} (C : gj_C p s m args meth c D ad tc A cX10_setOf 4 (some .int) RX10) {r : Int32} {w1 : ab_W} {k4 : Nat → Int32 → Int32 → Int32 → ab_W → Option (Int32 × ab_W)} (hk4 : ∀ {x0 : Nat} {x1 : Int32} {x2 : Int32} {x3 : Int32} {w : ab_W}, k4 x0 x1 x2 x3 w = some (r, w1) → gj_G p l e (gj_R 1) s m args below meth c D ad tc A 4 (gj_Qi D ad tc A below args s r w1) 4 [some (.ref x0), some (.int x1), some (.int x2), some (.int x3)] [] w) {x0 : Nat} {x1 : Int32} {x3 : Int32} {p0 : Int32} {p1 : Int32} {w : ab_W} (h : sX10_setOf_47 k4 x0 x1 x3 p0 p1 w = some (r, w1)) : gj_G p l e (gj_R 1) s m args below meth c D ad tc A 4 (gj_Qi D ad tc A below args s r w1) 47 [some (.ref x0), some (.int x1), none, some (.int x3)] [.int p1, .int p0] w := by
  unfold sX10_setOf_47 at h
  refine gj_ior C (pc' := 48) rfl dX10_setOf_47 ?_
  refine gj_istore_n C (pc' := 49) (i := 2) (lv' := [_, _, _, _]) rfl dX10_setOf_48 rfl (by decide) rfl rfl ?_
  refine gj_iinc C (pc' := 52) (i := 3) (v := _ + 1) (lv' := [_, _, _, _]) rfl dX10_setOf_49 rfl rfl (by decide) rfl rfl ?_
  refine gj_goto C (tgt := 4) dX10_setOf_52 rfl ?_
  refine gj_drop (lv' := [some _, some _, some _, some _]) (And.intro rfl (And.intro rfl (And.intro rfl (And.intro rfl True.intro)))) ?_
  exact hk4 h
set_option maxHeartbeats 4000000 in
set_option maxRecDepth 100000 in
theorem kX10_setOf_46 {p : Program} {l : Launch} {e : Env} {s : State} {m : MethodId} {args : Array Value} {below : List Frame} {meth : Method} {c : Code} {D : va_G} {ad : Nat → Nat} {tc : Nat → ClassId} {A : Nat → Prop} (C : gj_C p s m args meth c D ad tc A cX10_setOf 4 (some .int) RX10) {r : Int32} {w1 : ab_W} {k4 : Nat → Int32 → Int32 → Int32 → ab_W → Option (Int32 × ab_W)} (hk4 : ∀ {x0 : Nat} {x1 : Int32} {x2 : Int32} {x3 : Int32} {w : ab_W}, k4 x0 x1 x2 x3 w = some (r, w1) → gj_G p l e (gj_R 1) s m args below meth c D ad tc A 4 (gj_Qi D ad tc A below args s r w1) 4 [some (.ref x0), some (.int x1), some (.int x2), some (.int x3)] [] w) {x0 : Nat} {x1 : Int32} {x3 : Int32} {p0 : Int32} {w : ab_W} (h : sX10_setOf_46 k4 x0 x1 x3 p0 w = some (r, w1)) : gj_G p l e (gj_R 1) s m args below meth c D ad tc A 4 (gj_Qi D ad tc A below args s r w1) 46 [some (.ref x0), some (.int x1), none, some (.int x3)] [.int p0] w := by
  unfold sX10_setOf_46 at h
  refine gj_iconst C (pc' := 47) (v := 0) rfl dX10_setOf_46 (by decide) ?_
  refine gj_drop (lv' := [some _, some _, none, some _]) (And.intro rfl (And.intro rfl (And.intro rfl True.intro))) ?_
  exact kX10_setOf_47 C (fun h => hk4 h) h
set_option maxHeartbeats 4000000 in
set_option maxRecDepth 100000 in
theorem kX10_setOf_40 {p : Program} {l : Launch} {e : Env} {s : State} {m : MethodId} {args : Array Value} {below : List Frame} {meth : Method} {c : Code} {D : va_G} {ad : Nat → Nat} {tc : Nat → ClassId} {A : Nat → Prop} (C : gj_C p s m args meth c D ad tc A cX10_setOf 4 (some .int) RX10) {r : Int32} {w1 : ab_W} {k4 : Nat → Int32 → Int32 → Int32 → ab_W → Option (Int32 × ab_W)} (hk4 : ∀ {x0 : Nat} {x1 : Int32} {x2 : Int32} {x3 : Int32} {w : ab_W}, k4 x0 x1 x2 x3 w = some (r, w1) → gj_G p l e (gj_R 1) s m args below meth c D ad tc A 4 (gj_Qi D ad tc A below args s r w1) 4 [some (.ref x0), some (.int x1), some (.int x2), some (.int x3)] [] w) {x0 : Nat} {x1 : Int32} {x3 : Int32} {p0 : Int32} {w : ab_W} (h : sX10_setOf_40 k4 x0 x1 x3 p0 w = some (r, w1)) : gj_G p l e (gj_R 1) s m args below meth c D ad tc A 4 (gj_Qi D ad tc A below args s r w1) 40 [some (.ref x0), some (.int x1), none, some (.int x3)] [.int p0] w := by
  unfold sX10_setOf_40 at h
  refine gj_iconst C (pc' := 41) (v := 1) rfl dX10_setOf_40 (by decide) ?_
  refine gj_iload_n C (pc' := 42) (i := 3) rfl dX10_setOf_41 rfl rfl ?_
  refine gj_ishl C (pc' := 43) rfl dX10_setOf_42 ?_
  refine gj_goto C (tgt := 47) dX10_setOf_43 rfl ?_
  refine gj_drop (lv' := [some _, some _, none, some _]) (And.intro rfl (And.intro rfl (And.intro rfl True.intro))) ?_
  exact kX10_setOf_47 C (fun h => hk4 h) h
set_option maxHeartbeats 4000000 in
set_option maxRecDepth 100000 in
theorem kX10_setOf_4 {p : Program} {l : Launch} {e : Env} {s : State} {m : MethodId} {args : Array Value} {below : List Frame} {meth : Method} {c : Code} {D : va_G} {ad : Nat → Nat} {tc : Nat → ClassId} {A : Nat → Prop} (C : gj_C p s m args meth c D ad tc A cX10_setOf 4 (some .int) RX10) {r : Int32} {w1 : ab_W} : ∀ {n : Nat} {x0 : Nat} {x1 : Int32} {x2 : Int32} {x3 : Int32} {w : ab_W}, sX10_setOf_4 n x0 x1 x2 x3 w = some (r, w1) → gj_G p l e (gj_R 1) s m args below meth c D ad tc A 4 (gj_Qi D ad tc A below args s r w1) 4 [some (.ref x0), some (.int x1), some (.int x2), some (.int x3)] [] w := by
  intro n
  induction n with
  | zero =>
    intros
    rename_i h
    cases h
  | succ n ih =>
    intro x0 x1 x2 x3 w h
    rw [sX10_setOf_4] at h
    refine gj_iload_n C (pc' := 5) (i := 3) rfl dX10_setOf_4 rfl rfl ?_
    refine gj_aload_n C (pc' := 6) (i := 0) rfl dX10_setOf_5 rfl rfl ?_
    refine gj_getR C (pc' := 9) rfl dX10_setOf_6 wf_X10_7 h (fun v1 h => ?_)
    refine gj_iconst C (pc' := 10) (v := 2) rfl dX10_setOf_9 (by decide) ?_
    refine gj_iald C (pc' := 11) rfl dX10_setOf_10 h (fun v2 h => ?_)
    refine gj_icmp_ge C (pc' := 14) (tgt := 55) rfl dX10_setOf_11 rfl h (fun h => ?_) (fun h => ?_)
    · refine gj_iload_n C (pc' := 15) (i := 2) rfl dX10_setOf_14 rfl rfl ?_
      refine gj_aload_n C (pc' := 16) (i := 0) rfl dX10_setOf_15 rfl rfl ?_
      refine gj_iload_n C (pc' := 17) (i := 3) rfl dX10_setOf_16 rfl rfl ?_
      refine gj_iconst C (pc' := 18) (v := 4) rfl dX10_setOf_17 (by decide) ?_
      refine gj_callVi C (pc' := 21) rfl dX10_setOf_18 wm_X10_65 uX10_its h (kX10_its _ _ _ _) (by omega) rfl rfl (Nat.le_of_ble_eq_true rfl) (fun v3 w4 h => ?_)
      refine gj_iconst C (pc' := 22) (v := 1) rfl dX10_setOf_21 (by decide) ?_
      refine gj_icmp_ne C (pc' := 25) (tgt := 46) rfl dX10_setOf_22 rfl h (fun h => ?_) (fun h => ?_)
      · refine gj_iload_n C (pc' := 26) (i := 1) rfl dX10_setOf_25 rfl rfl ?_
        refine gj_if_eq C (pc' := 29) (tgt := 40) rfl dX10_setOf_26 rfl h (fun h => ?_) (fun h => ?_)
        · refine gj_drop (lv' := [some _, some _, none, some _]) (And.intro rfl (And.intro rfl (And.intro rfl True.intro))) ?_
          exact kX10_setOf_40 C (fun h => ih h) h
        · refine gj_aload_n C (pc' := 30) (i := 0) rfl dX10_setOf_29 rfl rfl ?_
          refine gj_iload_n C (pc' := 31) (i := 3) rfl dX10_setOf_30 rfl rfl ?_
          refine gj_iconst C (pc' := 32) (v := 5) rfl dX10_setOf_31 (by decide) ?_
          refine gj_callVi C (pc' := 35) rfl dX10_setOf_32 wm_X10_65 uX10_its h (kX10_its _ _ _ _) (by omega) rfl rfl (Nat.le_of_ble_eq_true rfl) (fun v5 w6 h => ?_)
          refine gj_bipush C (pc' := 37) (v := 100) rfl dX10_setOf_35 (by decide) ?_
          refine gj_icmp_lt C (pc' := 40) (tgt := 46) rfl dX10_setOf_37 rfl h (fun h => ?_) (fun h => ?_)
          · refine gj_drop (lv' := [some _, some _, none, some _]) (And.intro rfl (And.intro rfl (And.intro rfl True.intro))) ?_
            exact kX10_setOf_46 C (fun h => ih h) h
          · refine gj_drop (lv' := [some _, some _, none, some _]) (And.intro rfl (And.intro rfl (And.intro rfl True.intro))) ?_
            exact kX10_setOf_40 C (fun h => ih h) h
      · refine gj_drop (lv' := [some _, some _, none, some _]) (And.intro rfl (And.intro rfl (And.intro rfl True.intro))) ?_
        exact kX10_setOf_46 C (fun h => ih h) h
    · refine gj_iload_n C (pc' := 56) (i := 2) rfl dX10_setOf_55 rfl rfl ?_
      exact gj_iret C dX10_setOf_56 h
set_option maxHeartbeats 4000000 in
set_option maxRecDepth 100000 in
theorem kX10_setOf : ∀ (x0 : Nat) (x1 : Int32) (w : ab_W) (r : Int32) (w1 : ab_W), sX10_setOf x0 x1 w = some (r, w1) → gj_Mi yX10_setOf cX10_setOf 4 (some .int) 1 [.ref x0, .int x1] w r w1 ∧ ab_is w 10 x0 = true := by
  intro x0 x1 w r w1 h
  unfold sX10_setOf at h
  obtain ⟨hi, h⟩ := ab_ite h
  refine ⟨?_, hi⟩
  refine gj_Mi_of RX10 [some (.ref x0), some (.int x1), none, none] (by decide +kernel) rfl (Nat.le_of_ble_eq_true rfl) rfl (fun p l e s m args below meth c D ad tc A C => ?_)
  refine gj_iconst C (pc' := 1) (v := 0) rfl dX10_setOf_0 (by decide) ?_
  refine gj_istore_n C (pc' := 2) (i := 2) (lv' := [_, _, _, _]) rfl dX10_setOf_1 rfl (by decide) rfl rfl ?_
  refine gj_iconst C (pc' := 3) (v := 0) rfl dX10_setOf_2 (by decide) ?_
  refine gj_istore_n C (pc' := 4) (i := 3) (lv' := [_, _, _, _]) rfl dX10_setOf_3 rfl (by decide) rfl rfl ?_
  refine gj_drop (lv' := [some _, some _, some _, some _]) (And.intro rfl (And.intro rfl (And.intro rfl (And.intro rfl True.intro)))) ?_
  exact kX10_setOf_4 C h
set_option maxHeartbeats 4000000 in
set_option maxRecDepth 100000 in
theorem kX10_then_27 {p : Program} {l : Launch} {e : Env} {s : State} {m : MethodId} {args : Array Value} {below : List Frame} {meth : Method} {c : Code} {D : va_G} {ad : Nat → Nat} {tc : Nat → ClassId} {A : Nat → Prop} (C : gj_C p s m args meth c D ad tc A cX10_then 5 (some .int) RX10) {r : Int32} {w1 : ab_W} {x0 : Nat} {w : ab_W} (h : sX10_then_27 x0 w = some (r, w1)) : gj_G p l e (gj_R 109) s m args below meth c D ad tc A 5 (gj_Qi D ad tc A below args s r w1) 27 [some (.ref x0), none, none, none, none] [] w := by
  unfold sX10_then_27 at h
  refine gj_aload_n C (pc' := 28) (i := 0) rfl dX10_then_27 rfl rfl ?_
  refine gj_ldc C (pc' := 30) rfl dX10_then_28 wk_X10_51 ?_
  refine gj_callVi C (pc' := 33) rfl dX10_then_30 wm_X10_52 uX10_errs h (kX10_errs _ _ _) (by omega) rfl rfl (Nat.le_of_ble_eq_true rfl) (fun v1 w2 h => ?_)
  exact gj_iret C dX10_then_33 h
set_option maxHeartbeats 4000000 in
set_option maxRecDepth 100000 in
theorem kX10_then_62 {p : Program} {l : Launch} {e : Env} {s : State} {m : MethodId} {args : Array Value} {below : List Frame} {meth : Method} {c : Code} {D : va_G} {ad : Nat → Nat} {tc : Nat → ClassId} {A : Nat → Prop} (C : gj_C p s m args meth c D ad tc A cX10_then 5 (some .int) RX10) {r : Int32} {w1 : ab_W} {x0 : Nat} {p0 : Nat} {p1 : Int32} {p2 : Int32} {w : ab_W} (h : sX10_then_62 x0 p0 p1 p2 w = some (r, w1)) : gj_G p l e (gj_R 109) s m args below meth c D ad tc A 5 (gj_Qi D ad tc A below args s r w1) 62 [some (.ref x0), none, none, none, none] [.int p2, .int p1, .ref p0] w := by
  unfold sX10_then_62 at h
  refine gj_callVi C (pc' := 65) rfl dX10_then_62 wm_X10_65 uX10_its h (kX10_its _ _ _ _) (by omega) rfl rfl (Nat.le_of_ble_eq_true rfl) (fun v1 w2 h => ?_)
  refine gj_istore C (pc' := 67) (i := 4) (lv' := [_, _, _, _, _]) rfl dX10_then_65 (by decide) rfl rfl ?_
  refine gj_aload_n C (pc' := 68) (i := 0) rfl dX10_then_67 rfl rfl ?_
  refine gj_aload_n C (pc' := 69) (i := 0) rfl dX10_then_68 rfl rfl ?_
  refine gj_getR C (pc' := 72) rfl dX10_then_69 wf_X10_16 h (fun v3 h => ?_)
  refine gj_aload_n C (pc' := 73) (i := 0) rfl dX10_then_72 rfl rfl ?_
  refine gj_getR C (pc' := 76) rfl dX10_then_73 wf_X10_7 h (fun v4 h => ?_)
  refine gj_callVv C (pc' := 79) rfl dX10_then_76 wm_X10_162 uX10_moveAll h (kX10_moveAll _ _ _ _) (by omega) rfl rfl (Nat.le_of_ble_eq_true rfl) (fun w5 h => ?_)
  refine gj_iload C (pc' := 81) (i := 4) rfl dX10_then_79 rfl ?_
  exact gj_iret C dX10_then_81 h
set_option maxHeartbeats 4000000 in
set_option maxRecDepth 100000 in
theorem kX10_then : ∀ (x0 : Nat) (x1 : Int32) (x2 : Int32) (x3 : Int32) (w : ab_W) (r : Int32) (w1 : ab_W), sX10_then x0 x1 x2 x3 w = some (r, w1) → gj_Mi yX10_then cX10_then 5 (some .int) 109 [.ref x0, .int x1, .int x2, .int x3] w r w1 ∧ ab_is w 10 x0 = true := by
  intro x0 x1 x2 x3 w r w1 h
  unfold sX10_then at h
  obtain ⟨hi, h⟩ := ab_ite h
  refine ⟨?_, hi⟩
  refine gj_Mi_of RX10 [some (.ref x0), some (.int x1), some (.int x2), some (.int x3), none] (by decide +kernel) rfl (Nat.le_of_ble_eq_true rfl) rfl (fun p l e s m args below meth c D ad tc A C => ?_)
  refine gj_iload_n C (pc' := 1) (i := 1) rfl dX10_then_0 rfl rfl ?_
  refine gj_iconst C (pc' := 2) (v := 0) rfl dX10_then_1 (by decide) ?_
  refine gj_bipush C (pc' := 4) (v := 60) rfl dX10_then_2 (by decide) ?_
  refine gj_callSi C (pc' := 7) rfl dX10_then_4 wm_X10_47 uX10_in h (kX10_in _ _ _ _) (by omega) rfl rfl (Nat.le_of_ble_eq_true rfl) (fun v1 w2 h => ?_)
  refine gj_if_eq C (pc' := 10) (tgt := 27) rfl dX10_then_7 rfl h (fun h => ?_) (fun h => ?_)
  · refine gj_drop (lv' := [some _, none, none, none, none]) (And.intro rfl True.intro) ?_
    exact kX10_then_27 C h
  · refine gj_aload_n C (pc' := 11) (i := 0) rfl dX10_then_10 rfl rfl ?_
    refine gj_iload_n C (pc' := 12) (i := 2) rfl dX10_then_11 rfl rfl ?_
    refine gj_callVi C (pc' := 15) rfl dX10_then_12 wm_X10_61 uX10_isPaper h (kX10_isPaper _ _ _) (by omega) rfl rfl (Nat.le_of_ble_eq_true rfl) (fun v3 w4 h => ?_)
    refine gj_if_eq C (pc' := 18) (tgt := 27) rfl dX10_then_15 rfl h (fun h => ?_) (fun h => ?_)
    · refine gj_drop (lv' := [some _, none, none, none, none]) (And.intro rfl True.intro) ?_
      exact kX10_then_27 C h
    · refine gj_iload_n C (pc' := 19) (i := 3) rfl dX10_then_18 rfl rfl ?_
      refine gj_iconst C (pc' := 20) (v := 0) rfl dX10_then_19 (by decide) ?_
      refine gj_iconst C (pc' := 21) (v := 1) rfl dX10_then_20 (by decide) ?_
      refine gj_callSi C (pc' := 24) rfl dX10_then_21 wm_X10_47 uX10_in h (kX10_in _ _ _ _) (by omega) rfl rfl (Nat.le_of_ble_eq_true rfl) (fun v5 w6 h => ?_)
      refine gj_if_ne C (pc' := 27) (tgt := 34) rfl dX10_then_24 rfl h (fun h => ?_) (fun h => ?_)
      · refine gj_drop (lv' := [some _, none, none, none, none]) (And.intro rfl True.intro) ?_
        exact kX10_then_27 C h
      · refine gj_aload_n C (pc' := 35) (i := 0) rfl dX10_then_34 rfl rfl ?_
        refine gj_aload_n C (pc' := 36) (i := 0) rfl dX10_then_35 rfl rfl ?_
        refine gj_getR C (pc' := 39) rfl dX10_then_36 wf_X10_7 h (fun v7 h => ?_)
        refine gj_aload_n C (pc' := 40) (i := 0) rfl dX10_then_39 rfl rfl ?_
        refine gj_getR C (pc' := 43) rfl dX10_then_40 wf_X10_16 h (fun v8 h => ?_)
        refine gj_callVv C (pc' := 46) rfl dX10_then_43 wm_X10_162 uX10_moveAll h (kX10_moveAll _ _ _ _) (by omega) rfl rfl (Nat.le_of_ble_eq_true rfl) (fun w9 h => ?_)
        refine gj_aload_n C (pc' := 47) (i := 0) rfl dX10_then_46 rfl rfl ?_
        refine gj_iload_n C (pc' := 48) (i := 1) rfl dX10_then_47 rfl rfl ?_
        refine gj_callVv C (pc' := 51) rfl dX10_then_48 wm_X10_193 uX10_passes h (kX10_passes _ _ _) (by omega) rfl rfl (Nat.le_of_ble_eq_true rfl) (fun w10 h => ?_)
        refine gj_aload_n C (pc' := 52) (i := 0) rfl dX10_then_51 rfl rfl ?_
        refine gj_iload_n C (pc' := 53) (i := 2) rfl dX10_then_52 rfl rfl ?_
        refine gj_iload_n C (pc' := 54) (i := 3) rfl dX10_then_53 rfl rfl ?_
        refine gj_if_ne C (pc' := 57) (tgt := 61) rfl dX10_then_54 rfl h (fun h => ?_) (fun h => ?_)
        · refine gj_iconst C (pc' := 58) (v := 5) rfl dX10_then_57 (by decide) ?_
          refine gj_goto C (tgt := 62) dX10_then_58 rfl ?_
          refine gj_drop (lv' := [some _, none, none, none, none]) (And.intro rfl True.intro) ?_
          exact kX10_then_62 C h
        · refine gj_iconst C (pc' := 62) (v := 2) rfl dX10_then_61 (by decide) ?_
          refine gj_drop (lv' := [some _, none, none, none, none]) (And.intro rfl True.intro) ?_
          exact kX10_then_62 C h
set_option maxHeartbeats 4000000 in
set_option maxRecDepth 100000 in
theorem kX10_first_100 {p : Program} {l : Launch} {e : Env} {s : State} {m : MethodId} {args : Array Value} {below : List Frame} {meth : Method} {c : Code} {D : va_G} {ad : Nat → Nat} {tc : Nat → ClassId} {A : Nat → Prop} (C : gj_C p s m args meth c D ad tc A cX10_first 6 (some .int) RX10) {r : Int32} {w1 : ab_W} : ∀ {n : Nat} {x1 : Int32} {x3 : Int32} {x4 : Int32} {x5 : Int32} {w : ab_W}, sX10_first_100 n x1 x3 x4 x5 w = some (r, w1) → gj_G p l e (gj_R 108) s m args below meth c D ad tc A 6 (gj_Qi D ad tc A below args s r w1) 100 [none, some (.int x1), none, some (.int x3), some (.int x4), some (.int x5)] [] w := by
  intro n
  induction n with
  | zero =>
    intros
    rename_i h
    cases h
  | succ n ih =>
    intro x1 x3 x4 x5 w h
    rw [sX10_first_100] at h
    refine gj_iload C (pc' := 102) (i := 4) rfl dX10_first_100 rfl ?_
    refine gj_iload C (pc' := 104) (i := 5) rfl dX10_first_102 rfl ?_
    refine gj_ishr C (pc' := 105) rfl dX10_first_104 ?_
    refine gj_iconst C (pc' := 106) (v := 1) rfl dX10_first_105 (by decide) ?_
    refine gj_iand C (pc' := 107) rfl dX10_first_106 ?_
    refine gj_if_ne C (pc' := 110) (tgt := 116) rfl dX10_first_107 rfl h (fun h => ?_) (fun h => ?_)
    · refine gj_iinc C (pc' := 113) (i := 5) (v := _ + 1) (lv' := [_, _, _, _, _, _]) rfl dX10_first_110 rfl rfl (by decide) rfl rfl ?_
      refine gj_goto C (tgt := 100) dX10_first_113 rfl ?_
      refine gj_drop (lv' := [none, some _, none, some _, some _, some _]) (And.intro rfl (And.intro rfl (And.intro rfl (And.intro rfl True.intro)))) ?_
      exact ih h
    · refine gj_iload_n C (pc' := 117) (i := 1) rfl dX10_first_116 rfl rfl ?_
      refine gj_if_ne C (pc' := 120) (tgt := 124) rfl dX10_first_117 rfl h (fun h => ?_) (fun h => ?_)
      · refine gj_iload_n C (pc' := 121) (i := 3) rfl dX10_first_120 rfl rfl ?_
        refine gj_goto C (tgt := 126) dX10_first_121 rfl ?_
        exact gj_iret C dX10_first_126 h
      · refine gj_iload C (pc' := 126) (i := 5) rfl dX10_first_124 rfl ?_
        exact gj_iret C dX10_first_126 h
set_option maxHeartbeats 4000000 in
set_option maxRecDepth 100000 in
theorem kX10_first_61 {p : Program} {l : Launch} {e : Env} {s : State} {m : MethodId} {args : Array Value} {below : List Frame} {meth : Method} {c : Code} {D : va_G} {ad : Nat → Nat} {tc : Nat → ClassId} {A : Nat → Prop} (C : gj_C p s m args meth c D ad tc A cX10_first 6 (some .int) RX10) {r : Int32} {w1 : ab_W} {x0 : Nat} {x1 : Int32} {x2 : Int32} {x3 : Int32} {w : ab_W} (h : sX10_first_61 x0 x1 x2 x3 w = some (r, w1)) : gj_G p l e (gj_R 108) s m args below meth c D ad tc A 6 (gj_Qi D ad tc A below args s r w1) 61 [some (.ref x0), some (.int x1), some (.int x2), some (.int x3), none, none] [] w := by
  unfold sX10_first_61 at h
  refine gj_aload_n C (pc' := 62) (i := 0) rfl dX10_first_61 rfl rfl ?_
  refine gj_iconst C (pc' := 63) (v := 1) rfl dX10_first_62 (by decide) ?_
  refine gj_callVi C (pc' := 66) rfl dX10_first_63 wm_X10_203 uX10_setOf h (kX10_setOf _ _ _) (by omega) rfl rfl (Nat.le_of_ble_eq_true rfl) (fun v1 w2 h => ?_)
  refine gj_iload_n C (pc' := 67) (i := 2) rfl dX10_first_66 rfl rfl ?_
  refine gj_iconst C (pc' := 68) (v := (-1)) rfl dX10_first_67 (by decide) ?_
  refine gj_ixor C (pc' := 69) rfl dX10_first_68 ?_
  refine gj_iand C (pc' := 70) rfl dX10_first_69 ?_
  refine gj_istore C (pc' := 72) (i := 4) (lv' := [_, _, _, _, _, _]) rfl dX10_first_70 (by decide) rfl rfl ?_
  refine gj_aload_n C (pc' := 73) (i := 0) rfl dX10_first_72 rfl rfl ?_
  refine gj_aload_n C (pc' := 74) (i := 0) rfl dX10_first_73 rfl rfl ?_
  refine gj_getR C (pc' := 77) rfl dX10_first_74 wf_X10_16 h (fun v3 h => ?_)
  refine gj_aload_n C (pc' := 78) (i := 0) rfl dX10_first_77 rfl rfl ?_
  refine gj_getR C (pc' := 81) rfl dX10_first_78 wf_X10_7 h (fun v4 h => ?_)
  refine gj_callVv C (pc' := 84) rfl dX10_first_81 wm_X10_162 uX10_moveAll h (kX10_moveAll _ _ _ _) (by omega) rfl rfl (Nat.le_of_ble_eq_true rfl) (fun w5 h => ?_)
  refine gj_iload_n C (pc' := 85) (i := 3) rfl dX10_first_84 rfl rfl ?_
  refine gj_bipush C (pc' := 87) (v := 60) rfl dX10_first_85 (by decide) ?_
  refine gj_icmp_le C (pc' := 90) (tgt := 97) rfl dX10_first_87 rfl h (fun h => ?_) (fun h => ?_)
  · refine gj_aload_n C (pc' := 91) (i := 0) rfl dX10_first_90 rfl rfl ?_
    refine gj_ldc C (pc' := 93) rfl dX10_first_91 wk_X10_182 ?_
    refine gj_callVi C (pc' := 96) rfl dX10_first_93 wm_X10_52 uX10_errs h (kX10_errs _ _ _) (by omega) rfl rfl (Nat.le_of_ble_eq_true rfl) (fun v6 w7 h => ?_)
    exact gj_iret C dX10_first_96 h
  · refine gj_iconst C (pc' := 98) (v := 0) rfl dX10_first_97 (by decide) ?_
    refine gj_istore C (pc' := 100) (i := 5) (lv' := [_, _, _, _, _, _]) rfl dX10_first_98 (by decide) rfl rfl ?_
    refine gj_drop (lv' := [none, some _, none, some _, some _, some _]) (And.intro rfl (And.intro rfl (And.intro rfl (And.intro rfl True.intro)))) ?_
    exact kX10_first_100 C h
set_option maxHeartbeats 4000000 in
set_option maxRecDepth 100000 in
theorem kX10_first_36 {p : Program} {l : Launch} {e : Env} {s : State} {m : MethodId} {args : Array Value} {below : List Frame} {meth : Method} {c : Code} {D : va_G} {ad : Nat → Nat} {tc : Nat → ClassId} {A : Nat → Prop} (C : gj_C p s m args meth c D ad tc A cX10_first 6 (some .int) RX10) {r : Int32} {w1 : ab_W} : ∀ {n : Nat} {x0 : Nat} {x1 : Int32} {x2 : Int32} {x3 : Int32} {w : ab_W}, sX10_first_36 n x0 x1 x2 x3 w = some (r, w1) → gj_G p l e (gj_R 108) s m args below meth c D ad tc A 6 (gj_Qi D ad tc A below args s r w1) 36 [some (.ref x0), some (.int x1), some (.int x2), some (.int x3), none, none] [] w := by
  intro n
  induction n with
  | zero =>
    intros
    rename_i h
    cases h
  | succ n ih =>
    intro x0 x1 x2 x3 w h
    rw [sX10_first_36] at h
    refine gj_iload_n C (pc' := 37) (i := 3) rfl dX10_first_36 rfl rfl ?_
    refine gj_bipush C (pc' := 39) (v := 60) rfl dX10_first_37 (by decide) ?_
    refine gj_icmp_gt C (pc' := 42) (tgt := 61) rfl dX10_first_39 rfl h (fun h => ?_) (fun h => ?_)
    · refine gj_drop (lv' := [some _, some _, some _, some _, none, none]) (And.intro rfl (And.intro rfl (And.intro rfl (And.intro rfl True.intro)))) ?_
      exact kX10_first_61 C h
    · refine gj_aload_n C (pc' := 43) (i := 0) rfl dX10_first_42 rfl rfl ?_
      refine gj_iconst C (pc' := 44) (v := 1) rfl dX10_first_43 (by decide) ?_
      refine gj_callVi C (pc' := 47) rfl dX10_first_44 wm_X10_203 uX10_setOf h (kX10_setOf _ _ _) (by omega) rfl rfl (Nat.le_of_ble_eq_true rfl) (fun v1 w2 h => ?_)
      refine gj_iload_n C (pc' := 48) (i := 2) rfl dX10_first_47 rfl rfl ?_
      refine gj_icmp_ne C (pc' := 51) (tgt := 61) rfl dX10_first_48 rfl h (fun h => ?_) (fun h => ?_)
      · refine gj_aload_n C (pc' := 52) (i := 0) rfl dX10_first_51 rfl rfl ?_
        refine gj_callVv C (pc' := 55) rfl dX10_first_52 wm_X10_190 uX10_oneDay h (kX10_oneDay _ _) (by omega) rfl rfl (Nat.le_of_ble_eq_true rfl) (fun w3 h => ?_)
        refine gj_iinc C (pc' := 58) (i := 3) (v := _ + 1) (lv' := [_, _, _, _, _, _]) rfl dX10_first_55 rfl rfl (by decide) rfl rfl ?_
        refine gj_goto C (tgt := 36) dX10_first_58 rfl ?_
        refine gj_drop (lv' := [some _, some _, some _, some _, none, none]) (And.intro rfl (And.intro rfl (And.intro rfl (And.intro rfl True.intro)))) ?_
        exact ih h
      · refine gj_drop (lv' := [some _, some _, some _, some _, none, none]) (And.intro rfl (And.intro rfl (And.intro rfl (And.intro rfl True.intro)))) ?_
        exact kX10_first_61 C h
set_option maxHeartbeats 4000000 in
set_option maxRecDepth 100000 in
theorem kX10_first : ∀ (x0 : Nat) (x1 : Int32) (w : ab_W) (r : Int32) (w1 : ab_W), sX10_first x0 x1 w = some (r, w1) → gj_Mi yX10_first cX10_first 6 (some .int) 108 [.ref x0, .int x1] w r w1 ∧ ab_is w 10 x0 = true := by
  intro x0 x1 w r w1 h
  unfold sX10_first at h
  obtain ⟨hi, h⟩ := ab_ite h
  refine ⟨?_, hi⟩
  refine gj_Mi_of RX10 [some (.ref x0), some (.int x1), none, none, none, none] (by decide +kernel) rfl (Nat.le_of_ble_eq_true rfl) rfl (fun p l e s m args below meth c D ad tc A C => ?_)
  refine gj_iload_n C (pc' := 1) (i := 1) rfl dX10_first_0 rfl rfl ?_
  refine gj_iconst C (pc' := 2) (v := 0) rfl dX10_first_1 (by decide) ?_
  refine gj_iconst C (pc' := 3) (v := 1) rfl dX10_first_2 (by decide) ?_
  refine gj_callSi C (pc' := 6) rfl dX10_first_3 wm_X10_47 uX10_in h (kX10_in _ _ _ _) (by omega) rfl rfl (Nat.le_of_ble_eq_true rfl) (fun v1 w2 h => ?_)
  refine gj_if_ne C (pc' := 9) (tgt := 16) rfl dX10_first_6 rfl h (fun h => ?_) (fun h => ?_)
  · refine gj_aload_n C (pc' := 10) (i := 0) rfl dX10_first_9 rfl rfl ?_
    refine gj_ldc C (pc' := 12) rfl dX10_first_10 wk_X10_51 ?_
    refine gj_callVi C (pc' := 15) rfl dX10_first_12 wm_X10_52 uX10_errs h (kX10_errs _ _ _) (by omega) rfl rfl (Nat.le_of_ble_eq_true rfl) (fun v3 w4 h => ?_)
    exact gj_iret C dX10_first_15 h
  · refine gj_aload_n C (pc' := 17) (i := 0) rfl dX10_first_16 rfl rfl ?_
    refine gj_iconst C (pc' := 18) (v := 1) rfl dX10_first_17 (by decide) ?_
    refine gj_callVi C (pc' := 21) rfl dX10_first_18 wm_X10_203 uX10_setOf h (kX10_setOf _ _ _) (by omega) rfl rfl (Nat.le_of_ble_eq_true rfl) (fun v5 w6 h => ?_)
    refine gj_istore_n C (pc' := 22) (i := 2) (lv' := [_, _, _, _, _, _]) rfl dX10_first_21 rfl (by decide) rfl rfl ?_
    refine gj_aload_n C (pc' := 23) (i := 0) rfl dX10_first_22 rfl rfl ?_
    refine gj_aload_n C (pc' := 24) (i := 0) rfl dX10_first_23 rfl rfl ?_
    refine gj_getR C (pc' := 27) rfl dX10_first_24 wf_X10_7 h (fun v7 h => ?_)
    refine gj_aload_n C (pc' := 28) (i := 0) rfl dX10_first_27 rfl rfl ?_
    refine gj_getR C (pc' := 31) rfl dX10_first_28 wf_X10_16 h (fun v8 h => ?_)
    refine gj_callVv C (pc' := 34) rfl dX10_first_31 wm_X10_162 uX10_moveAll h (kX10_moveAll _ _ _ _) (by omega) rfl rfl (Nat.le_of_ble_eq_true rfl) (fun w9 h => ?_)
    refine gj_iconst C (pc' := 35) (v := 0) rfl dX10_first_34 (by decide) ?_
    refine gj_istore_n C (pc' := 36) (i := 3) (lv' := [_, _, _, _, _, _]) rfl dX10_first_35 rfl (by decide) rfl rfl ?_
    refine gj_drop (lv' := [some _, some _, some _, some _, none, none]) (And.intro rfl (And.intro rfl (And.intro rfl (And.intro rfl True.intro)))) ?_
    exact kX10_first_36 C h
set_option maxHeartbeats 4000000 in
set_option maxRecDepth 100000 in
theorem kX10_best_27 {p : Program} {l : Launch} {e : Env} {s : State} {m : MethodId} {args : Array Value} {below : List Frame} {meth : Method} {c : Code} {D : va_G} {ad : Nat → Nat} {tc : Nat → ClassId} {A : Nat → Prop} (C : gj_C p s m args meth c D ad tc A cX10_best 8 (some .int) RX10) {r : Int32} {w1 : ab_W} {x0 : Nat} {w : ab_W} (h : sX10_best_27 x0 w = some (r, w1)) : gj_G p l e (gj_R 109) s m args below meth c D ad tc A 8 (gj_Qi D ad tc A below args s r w1) 27 [some (.ref x0), none, none, none, none, none, none, none] [] w := by
  unfold sX10_best_27 at h
  refine gj_aload_n C (pc' := 28) (i := 0) rfl dX10_best_27 rfl rfl ?_
  refine gj_ldc C (pc' := 30) rfl dX10_best_28 wk_X10_51 ?_
  refine gj_callVi C (pc' := 33) rfl dX10_best_30 wm_X10_52 uX10_errs h (kX10_errs _ _ _) (by omega) rfl rfl (Nat.le_of_ble_eq_true rfl) (fun v1 w2 h => ?_)
  exact gj_iret C dX10_best_33 h
set_option maxHeartbeats 4000000 in
set_option maxRecDepth 100000 in
theorem kX10_best_158 {p : Program} {l : Launch} {e : Env} {s : State} {m : MethodId} {args : Array Value} {below : List Frame} {meth : Method} {c : Code} {D : va_G} {ad : Nat → Nat} {tc : Nat → ClassId} {A : Nat → Prop} (C : gj_C p s m args meth c D ad tc A cX10_best 8 (some .int) RX10) {r : Int32} {w1 : ab_W} {k55 : Nat → Int32 → Int32 → Int32 → Int32 → Int32 → Int32 → ab_W → Option (Int32 × ab_W)} (hk55 : ∀ {x0 : Nat} {x1 : Int32} {x2 : Int32} {x3 : Int32} {x4 : Int32} {x5 : Int32} {x6 : Int32} {w : ab_W}, k55 x0 x1 x2 x3 x4 x5 x6 w = some (r, w1) → gj_G p l e (gj_R 109) s m args below meth c D ad tc A 8 (gj_Qi D ad tc A below args s r w1) 55 [some (.ref x0), some (.int x1), some (.int x2), some (.int x3), some (.int x4), some (.int x5), some (.int x6), none] [] w) {x0 : Nat} {x1 : Int32} {x2 : Int32} {x3 : Int32} {x4 : Int32} {x5 : Int32} {x6 : Int32} {w : ab_W} (h : sX10_best_158 k55 x0 x1 x2 x3 x4 x5 x6 w = some (r, w1)) : gj_G p l e (gj_R 109) s m args below meth c D ad tc A 8 (gj_Qi D ad tc A below args s r w1) 158 [some (.ref x0), some (.int x1), some (.int x2), some (.int x3), some (.int x4), some (.int x5), some (.int x6), none] [] w := by
  unfold sX10_best_158 at h
  refine gj_iinc C (pc' := 161) (i := 6) (v := _ + 1) (lv' := [_, _, _, _, _, _, _, _]) rfl dX10_best_158 rfl rfl (by decide) rfl rfl ?_
  refine gj_goto C (tgt := 55) dX10_best_161 rfl ?_
  refine gj_drop (lv' := [some _, some _, some _, some _, some _, some _, some _, none]) (And.intro rfl (And.intro rfl (And.intro rfl (And.intro rfl (And.intro rfl (And.intro rfl (And.intro rfl True.intro))))))) ?_
  exact hk55 h
set_option maxHeartbeats 4000000 in
set_option maxRecDepth 100000 in
theorem kX10_best_156 {p : Program} {l : Launch} {e : Env} {s : State} {m : MethodId} {args : Array Value} {below : List Frame} {meth : Method} {c : Code} {D : va_G} {ad : Nat → Nat} {tc : Nat → ClassId} {A : Nat → Prop} (C : gj_C p s m args meth c D ad tc A cX10_best 8 (some .int) RX10) {r : Int32} {w1 : ab_W} {k55 : Nat → Int32 → Int32 → Int32 → Int32 → Int32 → Int32 → ab_W → Option (Int32 × ab_W)} (hk55 : ∀ {x0 : Nat} {x1 : Int32} {x2 : Int32} {x3 : Int32} {x4 : Int32} {x5 : Int32} {x6 : Int32} {w : ab_W}, k55 x0 x1 x2 x3 x4 x5 x6 w = some (r, w1) → gj_G p l e (gj_R 109) s m args below meth c D ad tc A 8 (gj_Qi D ad tc A below args s r w1) 55 [some (.ref x0), some (.int x1), some (.int x2), some (.int x3), some (.int x4), some (.int x5), some (.int x6), none] [] w) {x0 : Nat} {x1 : Int32} {x2 : Int32} {x3 : Int32} {x4 : Int32} {x6 : Int32} {p0 : Int32} {w : ab_W} (h : sX10_best_156 k55 x0 x1 x2 x3 x4 x6 p0 w = some (r, w1)) : gj_G p l e (gj_R 109) s m args below meth c D ad tc A 8 (gj_Qi D ad tc A below args s r w1) 156 [some (.ref x0), some (.int x1), some (.int x2), some (.int x3), some (.int x4), none, some (.int x6), none] [.int p0] w := by
  unfold sX10_best_156 at h
  refine gj_istore C (pc' := 158) (i := 5) (lv' := [_, _, _, _, _, _, _, _]) rfl dX10_best_156 (by decide) rfl rfl ?_
  refine gj_drop (lv' := [some _, some _, some _, some _, some _, some _, some _, none]) (And.intro rfl (And.intro rfl (And.intro rfl (And.intro rfl (And.intro rfl (And.intro rfl (And.intro rfl True.intro))))))) ?_
  exact kX10_best_158 C (fun h => hk55 h) h
set_option maxHeartbeats 4000000 in
set_option maxRecDepth 100000 in
theorem kX10_best_140 {p : Program} {l : Launch} {e : Env} {s : State} {m : MethodId} {args : Array Value} {below : List Frame} {meth : Method} {c : Code} {D : va_G} {ad : Nat → Nat} {tc : Nat → ClassId} {A : Nat → Prop} (C : gj_C p s m args meth c D ad tc A cX10_best 8 (some .int) RX10) {r : Int32} {w1 : ab_W} {k55 : Nat → Int32 → Int32 → Int32 → Int32 → Int32 → Int32 → ab_W → Option (Int32 × ab_W)} (hk55 : ∀ {x0 : Nat} {x1 : Int32} {x2 : Int32} {x3 : Int32} {x4 : Int32} {x5 : Int32} {x6 : Int32} {w : ab_W}, k55 x0 x1 x2 x3 x4 x5 x6 w = some (r, w1) → gj_G p l e (gj_R 109) s m args below meth c D ad tc A 8 (gj_Qi D ad tc A below args s r w1) 55 [some (.ref x0), some (.int x1), some (.int x2), some (.int x3), some (.int x4), some (.int x5), some (.int x6), none] [] w) {x0 : Nat} {x1 : Int32} {x2 : Int32} {x3 : Int32} {x5 : Int32} {x6 : Int32} {x7 : Int32} {p0 : Int32} {w : ab_W} (h : sX10_best_140 k55 x0 x1 x2 x3 x5 x6 x7 p0 w = some (r, w1)) : gj_G p l e (gj_R 109) s m args below meth c D ad tc A 8 (gj_Qi D ad tc A below args s r w1) 140 [some (.ref x0), some (.int x1), some (.int x2), some (.int x3), none, some (.int x5), some (.int x6), some (.int x7)] [.int p0] w := by
  unfold sX10_best_140 at h
  refine gj_istore C (pc' := 142) (i := 4) (lv' := [_, _, _, _, _, _, _, _]) rfl dX10_best_140 (by decide) rfl rfl ?_
  refine gj_iload C (pc' := 144) (i := 7) rfl dX10_best_142 rfl ?_
  refine gj_iload C (pc' := 146) (i := 5) rfl dX10_best_144 rfl ?_
  refine gj_icmp_le C (pc' := 149) (tgt := 154) rfl dX10_best_146 rfl h (fun h => ?_) (fun h => ?_)
  · refine gj_iload C (pc' := 151) (i := 7) rfl dX10_best_149 rfl ?_
    refine gj_goto C (tgt := 156) dX10_best_151 rfl ?_
    refine gj_drop (lv' := [some _, some _, some _, some _, some _, none, some _, none]) (And.intro rfl (And.intro rfl (And.intro rfl (And.intro rfl (And.intro rfl (And.intro rfl True.intro)))))) ?_
    exact kX10_best_156 C (fun h => hk55 h) h
  · refine gj_iload C (pc' := 156) (i := 5) rfl dX10_best_154 rfl ?_
    refine gj_drop (lv' := [some _, some _, some _, some _, some _, none, some _, none]) (And.intro rfl (And.intro rfl (And.intro rfl (And.intro rfl (And.intro rfl (And.intro rfl True.intro)))))) ?_
    exact kX10_best_156 C (fun h => hk55 h) h
set_option maxHeartbeats 4000000 in
set_option maxRecDepth 100000 in
theorem kX10_best_55 {p : Program} {l : Launch} {e : Env} {s : State} {m : MethodId} {args : Array Value} {below : List Frame} {meth : Method} {c : Code} {D : va_G} {ad : Nat → Nat} {tc : Nat → ClassId} {A : Nat → Prop} (C : gj_C p s m args meth c D ad tc A cX10_best 8 (some .int) RX10) {r : Int32} {w1 : ab_W} : ∀ {n : Nat} {x0 : Nat} {x1 : Int32} {x2 : Int32} {x3 : Int32} {x4 : Int32} {x5 : Int32} {x6 : Int32} {w : ab_W}, sX10_best_55 n x0 x1 x2 x3 x4 x5 x6 w = some (r, w1) → gj_G p l e (gj_R 109) s m args below meth c D ad tc A 8 (gj_Qi D ad tc A below args s r w1) 55 [some (.ref x0), some (.int x1), some (.int x2), some (.int x3), some (.int x4), some (.int x5), some (.int x6), none] [] w := by
  intro n
  induction n with
  | zero =>
    intros
    rename_i h
    cases h
  | succ n ih =>
    intro x0 x1 x2 x3 x4 x5 x6 w h
    rw [sX10_best_55] at h
    refine gj_iload C (pc' := 57) (i := 6) rfl dX10_best_55 rfl ?_
    refine gj_bipush C (pc' := 59) (v := 127) rfl dX10_best_57 (by decide) ?_
    refine gj_icmp_gt C (pc' := 62) (tgt := 164) rfl dX10_best_59 rfl h (fun h => ?_) (fun h => ?_)
    · refine gj_iload C (pc' := 166) (i := 4) rfl dX10_best_164 rfl ?_
      refine gj_if_ge C (pc' := 169) (tgt := 176) rfl dX10_best_166 rfl h (fun h => ?_) (fun h => ?_)
      · refine gj_aload_n C (pc' := 170) (i := 0) rfl dX10_best_169 rfl rfl ?_
        refine gj_ldc C (pc' := 172) rfl dX10_best_170 wk_X10_182 ?_
        refine gj_callVi C (pc' := 175) rfl dX10_best_172 wm_X10_52 uX10_errs h (kX10_errs _ _ _) (by omega) rfl rfl (Nat.le_of_ble_eq_true rfl) (fun v1 w2 h => ?_)
        exact gj_iret C dX10_best_175 h
      · refine gj_iload_n C (pc' := 177) (i := 3) rfl dX10_best_176 rfl rfl ?_
        refine gj_if_ne C (pc' := 180) (tgt := 185) rfl dX10_best_177 rfl h (fun h => ?_) (fun h => ?_)
        · refine gj_iload C (pc' := 182) (i := 4) rfl dX10_best_180 rfl ?_
          refine gj_goto C (tgt := 187) dX10_best_182 rfl ?_
          exact gj_iret C dX10_best_187 h
        · refine gj_iload C (pc' := 187) (i := 5) rfl dX10_best_185 rfl ?_
          exact gj_iret C dX10_best_187 h
    · refine gj_aload_n C (pc' := 63) (i := 0) rfl dX10_best_62 rfl rfl ?_
      refine gj_iload_n C (pc' := 64) (i := 1) rfl dX10_best_63 rfl rfl ?_
      refine gj_iload C (pc' := 66) (i := 6) rfl dX10_best_64 rfl ?_
      refine gj_callVi C (pc' := 69) rfl dX10_best_66 wm_X10_78 uX10_isAlive h (kX10_isAlive _ _ _ _) (by omega) rfl rfl (Nat.le_of_ble_eq_true rfl) (fun v3 w4 h => ?_)
      refine gj_if_eq C (pc' := 72) (tgt := 158) rfl dX10_best_69 rfl h (fun h => ?_) (fun h => ?_)
      · refine gj_drop (lv' := [some _, some _, some _, some _, some _, some _, some _, none]) (And.intro rfl (And.intro rfl (And.intro rfl (And.intro rfl (And.intro rfl (And.intro rfl (And.intro rfl True.intro))))))) ?_
        exact kX10_best_158 C (fun h => ih h) h
      · refine gj_aload_n C (pc' := 73) (i := 0) rfl dX10_best_72 rfl rfl ?_
        refine gj_iload C (pc' := 75) (i := 6) rfl dX10_best_73 rfl ?_
        refine gj_callVi C (pc' := 78) rfl dX10_best_75 wm_X10_72 uX10_thick h (kX10_thick _ _ _) (by omega) rfl rfl (Nat.le_of_ble_eq_true rfl) (fun v5 w6 h => ?_)
        refine gj_aload_n C (pc' := 79) (i := 0) rfl dX10_best_78 rfl rfl ?_
        refine gj_iload_n C (pc' := 80) (i := 1) rfl dX10_best_79 rfl rfl ?_
        refine gj_callVi C (pc' := 83) rfl dX10_best_80 wm_X10_75 uX10_stiff h (kX10_stiff _ _ _) (by omega) rfl rfl (Nat.le_of_ble_eq_true rfl) (fun v7 w8 h => ?_)
        refine gj_icmp_gt C (pc' := 86) (tgt := 158) rfl dX10_best_83 rfl h (fun h => ?_) (fun h => ?_)
        · refine gj_drop (lv' := [some _, some _, some _, some _, some _, some _, some _, none]) (And.intro rfl (And.intro rfl (And.intro rfl (And.intro rfl (And.intro rfl (And.intro rfl (And.intro rfl True.intro))))))) ?_
          exact kX10_best_158 C (fun h => ih h) h
        · refine gj_aload_n C (pc' := 87) (i := 0) rfl dX10_best_86 rfl rfl ?_
          refine gj_iload_n C (pc' := 88) (i := 1) rfl dX10_best_87 rfl rfl ?_
          refine gj_iconst C (pc' := 89) (v := 3) rfl dX10_best_88 (by decide) ?_
          refine gj_iload C (pc' := 91) (i := 6) rfl dX10_best_89 rfl ?_
          refine gj_callVv C (pc' := 94) rfl dX10_best_91 wm_X10_57 uX10_gets h (kX10_gets _ _ _ _ _) (by omega) rfl rfl (Nat.le_of_ble_eq_true rfl) (fun w9 h => ?_)
          refine gj_aload_n C (pc' := 95) (i := 0) rfl dX10_best_94 rfl rfl ?_
          refine gj_iload_n C (pc' := 96) (i := 1) rfl dX10_best_95 rfl rfl ?_
          refine gj_iconst C (pc' := 97) (v := 4) rfl dX10_best_96 (by decide) ?_
          refine gj_iconst C (pc' := 98) (v := 1) rfl dX10_best_97 (by decide) ?_
          refine gj_callVv C (pc' := 101) rfl dX10_best_98 wm_X10_57 uX10_gets h (kX10_gets _ _ _ _ _) (by omega) rfl rfl (Nat.le_of_ble_eq_true rfl) (fun w10 h => ?_)
          refine gj_aload_n C (pc' := 102) (i := 0) rfl dX10_best_101 rfl rfl ?_
          refine gj_iload_n C (pc' := 103) (i := 2) rfl dX10_best_102 rfl rfl ?_
          refine gj_callVv C (pc' := 106) rfl dX10_best_103 wm_X10_193 uX10_passes h (kX10_passes _ _ _) (by omega) rfl rfl (Nat.le_of_ble_eq_true rfl) (fun w11 h => ?_)
          refine gj_aload_n C (pc' := 107) (i := 0) rfl dX10_best_106 rfl rfl ?_
          refine gj_iload_n C (pc' := 108) (i := 1) rfl dX10_best_107 rfl rfl ?_
          refine gj_iconst C (pc' := 109) (v := 5) rfl dX10_best_108 (by decide) ?_
          refine gj_callVi C (pc' := 112) rfl dX10_best_109 wm_X10_65 uX10_its h (kX10_its _ _ _ _) (by omega) rfl rfl (Nat.le_of_ble_eq_true rfl) (fun v12 w13 h => ?_)
          refine gj_istore C (pc' := 114) (i := 7) (lv' := [_, _, _, _, _, _, _, _]) rfl dX10_best_112 (by decide) rfl rfl ?_
          refine gj_aload_n C (pc' := 115) (i := 0) rfl dX10_best_114 rfl rfl ?_
          refine gj_aload_n C (pc' := 116) (i := 0) rfl dX10_best_115 rfl rfl ?_
          refine gj_getR C (pc' := 119) rfl dX10_best_116 wf_X10_16 h (fun v14 h => ?_)
          refine gj_aload_n C (pc' := 120) (i := 0) rfl dX10_best_119 rfl rfl ?_
          refine gj_getR C (pc' := 123) rfl dX10_best_120 wf_X10_7 h (fun v15 h => ?_)
          refine gj_callVv C (pc' := 126) rfl dX10_best_123 wm_X10_162 uX10_moveAll h (kX10_moveAll _ _ _ _) (by omega) rfl rfl (Nat.le_of_ble_eq_true rfl) (fun w16 h => ?_)
          refine gj_iload C (pc' := 128) (i := 7) rfl dX10_best_126 rfl ?_
          refine gj_iload C (pc' := 130) (i := 5) rfl dX10_best_128 rfl ?_
          refine gj_icmp_le C (pc' := 133) (tgt := 138) rfl dX10_best_130 rfl h (fun h => ?_) (fun h => ?_)
          · refine gj_iload C (pc' := 135) (i := 6) rfl dX10_best_133 rfl ?_
            refine gj_goto C (tgt := 140) dX10_best_135 rfl ?_
            refine gj_drop (lv' := [some _, some _, some _, some _, none, some _, some _, some _]) (And.intro rfl (And.intro rfl (And.intro rfl (And.intro rfl (And.intro rfl (And.intro rfl (And.intro rfl True.intro))))))) ?_
            exact kX10_best_140 C (fun h => ih h) h
          · refine gj_iload C (pc' := 140) (i := 4) rfl dX10_best_138 rfl ?_
            refine gj_drop (lv' := [some _, some _, some _, some _, none, some _, some _, some _]) (And.intro rfl (And.intro rfl (And.intro rfl (And.intro rfl (And.intro rfl (And.intro rfl (And.intro rfl True.intro))))))) ?_
            exact kX10_best_140 C (fun h => ih h) h
set_option maxHeartbeats 4000000 in
set_option maxRecDepth 100000 in
theorem kX10_best : ∀ (x0 : Nat) (x1 : Int32) (x2 : Int32) (x3 : Int32) (w : ab_W) (r : Int32) (w1 : ab_W), sX10_best x0 x1 x2 x3 w = some (r, w1) → gj_Mi yX10_best cX10_best 8 (some .int) 109 [.ref x0, .int x1, .int x2, .int x3] w r w1 ∧ ab_is w 10 x0 = true := by
  intro x0 x1 x2 x3 w r w1 h
  unfold sX10_best at h
  obtain ⟨hi, h⟩ := ab_ite h
  refine ⟨?_, hi⟩
  refine gj_Mi_of RX10 [some (.ref x0), some (.int x1), some (.int x2), some (.int x3), none, none, none, none] (by decide +kernel) rfl (Nat.le_of_ble_eq_true rfl) rfl (fun p l e s m args below meth c D ad tc A C => ?_)
  refine gj_aload_n C (pc' := 1) (i := 0) rfl dX10_best_0 rfl rfl ?_
  refine gj_iload_n C (pc' := 2) (i := 1) rfl dX10_best_1 rfl rfl ?_
  refine gj_callVi C (pc' := 5) rfl dX10_best_2 wm_X10_61 uX10_isPaper h (kX10_isPaper _ _ _) (by omega) rfl rfl (Nat.le_of_ble_eq_true rfl) (fun v1 w2 h => ?_)
  refine gj_if_eq C (pc' := 8) (tgt := 27) rfl dX10_best_5 rfl h (fun h => ?_) (fun h => ?_)
  · refine gj_drop (lv' := [some _, none, none, none, none, none, none, none]) (And.intro rfl True.intro) ?_
    exact kX10_best_27 C h
  · refine gj_iload_n C (pc' := 9) (i := 2) rfl dX10_best_8 rfl rfl ?_
    refine gj_iconst C (pc' := 10) (v := 0) rfl dX10_best_9 (by decide) ?_
    refine gj_bipush C (pc' := 12) (v := 60) rfl dX10_best_10 (by decide) ?_
    refine gj_callSi C (pc' := 15) rfl dX10_best_12 wm_X10_47 uX10_in h (kX10_in _ _ _ _) (by omega) rfl rfl (Nat.le_of_ble_eq_true rfl) (fun v3 w4 h => ?_)
    refine gj_if_eq C (pc' := 18) (tgt := 27) rfl dX10_best_15 rfl h (fun h => ?_) (fun h => ?_)
    · refine gj_drop (lv' := [some _, none, none, none, none, none, none, none]) (And.intro rfl True.intro) ?_
      exact kX10_best_27 C h
    · refine gj_iload_n C (pc' := 19) (i := 3) rfl dX10_best_18 rfl rfl ?_
      refine gj_iconst C (pc' := 20) (v := 0) rfl dX10_best_19 (by decide) ?_
      refine gj_iconst C (pc' := 21) (v := 1) rfl dX10_best_20 (by decide) ?_
      refine gj_callSi C (pc' := 24) rfl dX10_best_21 wm_X10_47 uX10_in h (kX10_in _ _ _ _) (by omega) rfl rfl (Nat.le_of_ble_eq_true rfl) (fun v5 w6 h => ?_)
      refine gj_if_ne C (pc' := 27) (tgt := 34) rfl dX10_best_24 rfl h (fun h => ?_) (fun h => ?_)
      · refine gj_drop (lv' := [some _, none, none, none, none, none, none, none]) (And.intro rfl True.intro) ?_
        exact kX10_best_27 C h
      · refine gj_iconst C (pc' := 35) (v := (-1)) rfl dX10_best_34 (by decide) ?_
        refine gj_istore C (pc' := 37) (i := 4) (lv' := [_, _, _, _, _, _, _, _]) rfl dX10_best_35 (by decide) rfl rfl ?_
        refine gj_iconst C (pc' := 38) (v := (-1)) rfl dX10_best_37 (by decide) ?_
        refine gj_istore C (pc' := 40) (i := 5) (lv' := [_, _, _, _, _, _, _, _]) rfl dX10_best_38 (by decide) rfl rfl ?_
        refine gj_aload_n C (pc' := 41) (i := 0) rfl dX10_best_40 rfl rfl ?_
        refine gj_aload_n C (pc' := 42) (i := 0) rfl dX10_best_41 rfl rfl ?_
        refine gj_getR C (pc' := 45) rfl dX10_best_42 wf_X10_7 h (fun v7 h => ?_)
        refine gj_aload_n C (pc' := 46) (i := 0) rfl dX10_best_45 rfl rfl ?_
        refine gj_getR C (pc' := 49) rfl dX10_best_46 wf_X10_16 h (fun v8 h => ?_)
        refine gj_callVv C (pc' := 52) rfl dX10_best_49 wm_X10_162 uX10_moveAll h (kX10_moveAll _ _ _ _) (by omega) rfl rfl (Nat.le_of_ble_eq_true rfl) (fun w9 h => ?_)
        refine gj_iconst C (pc' := 53) (v := 0) rfl dX10_best_52 (by decide) ?_
        refine gj_istore C (pc' := 55) (i := 6) (lv' := [_, _, _, _, _, _, _, _]) rfl dX10_best_53 (by decide) rfl rfl ?_
        refine gj_drop (lv' := [some _, some _, some _, some _, some _, some _, some _, none]) (And.intro rfl (And.intro rfl (And.intro rfl (And.intro rfl (And.intro rfl (And.intro rfl (And.intro rfl True.intro))))))) ?_
        exact kX10_best_55 C h
