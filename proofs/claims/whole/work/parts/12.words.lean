theorem gj_R1 {d : Nat} (h : 1 ≤ d) : 1 ≤ (gj_R d).frames ∧ 64 ≤ (gj_R d).locals := ⟨h, by show 64 ≤ 64 * d; omega⟩
theorem iX3 : ∀ w ∈ u_ws RX3 TX3 6, w ∈ gj_tb := gj_ins inX3 (by decide +kernel)
theorem wf_X3_15 : gj_F RX3 15 3 0 RX3 TX3 6 := ⟨rfl, by decide, iX3, gj_in (List.mem_of_getElem? (i := 156) (by decide +kernel)) (by decide +kernel), rfl⟩
theorem wp_X3_0 : gj_FP TX3 0 6 := ⟨⟨tyX3, tyX3_ok⟩, nmX3, rfl⟩
theorem wf_X3_19 : gj_F RX3 19 3 1 RX3 TX3 6 := ⟨rfl, by decide, iX3, gj_in (List.mem_of_getElem? (i := 161) (by decide +kernel)) (by decide +kernel), rfl⟩
theorem wp_X3_1 : gj_FP TX3 1 6 := ⟨⟨tyX3, tyX3_ok⟩, nmX3, rfl⟩
theorem wf_X3_22 : gj_F RX3 22 3 2 RX3 TX3 6 := ⟨rfl, by decide, iX3, gj_in (List.mem_of_getElem? (i := 165) (by decide +kernel)) (by decide +kernel), rfl⟩
theorem wp_X3_2 : gj_FP TX3 2 6 := ⟨⟨tyX3, tyX3_ok⟩, nmX3, rfl⟩
theorem wf_X3_25 : gj_F RX3 25 3 3 RX3 TX3 6 := ⟨rfl, by decide, iX3, gj_in (List.mem_of_getElem? (i := 169) (by decide +kernel)) (by decide +kernel), rfl⟩
theorem wp_X3_3 : gj_FP TX3 3 6 := ⟨⟨tyX3, tyX3_ok⟩, nmX3, rfl⟩
theorem wf_X3_28 : gj_F RX3 28 3 4 RX3 TX3 6 := ⟨rfl, by decide, iX3, gj_in (List.mem_of_getElem? (i := 173) (by decide +kernel)) (by decide +kernel), rfl⟩
theorem wp_X3_4 : gj_FP TX3 4 6 := ⟨⟨tyX3, tyX3_ok⟩, nmX3, rfl⟩
theorem wf_X3_32 : gj_F RX3 32 3 5 RX3 TX3 6 := ⟨rfl, by decide, iX3, gj_in (List.mem_of_getElem? (i := 177) (by decide +kernel)) (by decide +kernel), rfl⟩
theorem wp_X3_5 : gj_FP TX3 5 6 := ⟨⟨tyX3, tyX3_ok⟩, nmX3, rfl⟩
theorem iX0 : ∀ w ∈ u_ws RX0 TX0 10, w ∈ gj_tb := gj_ins inX0 (by decide +kernel)
theorem wf_X0_32 : gj_F RX0 32 0 4 RX0 TX0 10 := ⟨rfl, by decide, iX0, gj_in (List.mem_of_getElem? (i := 219) (by decide +kernel)) (by decide +kernel), rfl⟩
theorem wf_X0_11 : gj_F RX0 11 0 0 RX0 TX0 10 := ⟨rfl, by decide, iX0, gj_in (List.mem_of_getElem? (i := 209) (by decide +kernel)) (by decide +kernel), rfl⟩
theorem wm_X0_64 : Cond.methodLink RX0 64 yX3_lay ∈ gj_tb := gj_in (List.mem_of_getElem? (i := 403) (by decide +kernel)) (by decide +kernel)
set_option maxRecDepth 100000 in
theorem uX3_lay : gj_YC yX3_lay cX3_lay 3 none 2 3 := ⟨⟨⟨gj_in (List.mem_of_getElem? (i := 155) rfl) (by decide +kernel), gj_in (List.mem_of_getElem? (i := 60) (by decide +kernel)) (by decide +kernel), by decide +kernel, by decide +kernel, by decide⟩, gj_in (List.mem_of_getElem? (i := 153) (by decide +kernel)) (by decide +kernel), gj_in (List.mem_of_getElem? (i := 154) (by decide +kernel)) (by decide +kernel)⟩, TX3, 6, rfl⟩
theorem wp_X0_4 : gj_FP TX0 4 10 := ⟨⟨tyX0, tyX0_ok⟩, nmX0, rfl⟩
theorem wk_X9_313 : Cond.constant RX9 313 (-1000000000) ∈ gj_tb := gj_in (List.mem_of_getElem? (i := 398) (by decide +kernel)) (by decide +kernel)
theorem wm_X9_62 : Cond.methodLink RX9 62 yX9_within ∈ gj_tb := gj_in (List.mem_of_getElem? (i := 391) (by decide +kernel)) (by decide +kernel)
set_option maxRecDepth 100000 in
theorem uX9_within : gj_YS yX9_within cX9_within 3 (some .boolean) 3 := ⟨⟨gj_in (List.mem_of_getElem? (i := 393) rfl) (by decide +kernel), gj_in (List.mem_of_getElem? (i := 54) (by decide +kernel)) (by decide +kernel), by decide +kernel, by decide +kernel, by decide⟩, gj_in (List.mem_of_getElem? (i := 392) (by decide +kernel)) (by decide +kernel)⟩
theorem iX9 : ∀ w ∈ u_ws RX9 TX9 9, w ∈ gj_tb := gj_ins inX9 (by decide +kernel)
theorem wf_X9_9 : gj_F RX9 9 9 0 RX9 TX9 9 := ⟨rfl, by decide, iX9, gj_in (List.mem_of_getElem? (i := 359) (by decide +kernel)) (by decide +kernel), rfl⟩
theorem wm_X9_66 : Cond.methodLink RX9 66 yX9_fail ∈ gj_tb := gj_in (List.mem_of_getElem? (i := 394) (by decide +kernel)) (by decide +kernel)
set_option maxRecDepth 100000 in
theorem uX9_fail : gj_YC yX9_fail cX9_fail 2 (some .int) 1 9 := ⟨⟨⟨gj_in (List.mem_of_getElem? (i := 397) rfl) (by decide +kernel), gj_in (List.mem_of_getElem? (i := 54) (by decide +kernel)) (by decide +kernel), by decide +kernel, by decide +kernel, by decide⟩, gj_in (List.mem_of_getElem? (i := 396) (by decide +kernel)) (by decide +kernel), gj_in (List.mem_of_getElem? (i := 1) (by decide +kernel)) (by decide +kernel)⟩, TX9, 9, rfl⟩
theorem wf_X9_30 : gj_F RX9 30 9 3 RX9 TX9 9 := ⟨rfl, by decide, iX9, gj_in (List.mem_of_getElem? (i := 362) (by decide +kernel)) (by decide +kernel), rfl⟩
theorem wf_X9_70 : gj_F RX9 70 0 4 RX0 TX0 10 := ⟨rfl, by decide, iX0, gj_in (List.mem_of_getElem? (i := 221) (by decide +kernel)) (by decide +kernel), rfl⟩
theorem wm_X9_73 : Cond.methodLink RX9 73 yX0_lay ∈ gj_tb := gj_in (List.mem_of_getElem? (i := 399) (by decide +kernel)) (by decide +kernel)
set_option maxRecDepth 100000 in
theorem uX0_lay : gj_YC yX0_lay cX0_lay 4 (some .int) 2 0 := ⟨⟨⟨gj_in (List.mem_of_getElem? (i := 402) rfl) (by decide +kernel), gj_in (List.mem_of_getElem? (i := 59) (by decide +kernel)) (by decide +kernel), by decide +kernel, by decide +kernel, by decide⟩, gj_in (List.mem_of_getElem? (i := 400) (by decide +kernel)) (by decide +kernel), gj_in (List.mem_of_getElem? (i := 401) (by decide +kernel)) (by decide +kernel)⟩, TX0, 10, rfl⟩
theorem iX6 : ∀ w ∈ u_ws RX6 TX6 5, w ∈ gj_tb := gj_ins inX6 (by decide +kernel)
theorem wf_X6_9 : gj_F RX6 9 6 0 RX6 TX6 5 := ⟨rfl, by decide, iX6, gj_in (List.mem_of_getElem? (i := 117) (by decide +kernel)) (by decide +kernel), rfl⟩
theorem wm_X6_46 : Cond.methodLink RX6 46 yX3_widestLiving ∈ gj_tb := gj_in (List.mem_of_getElem? (i := 420) (by decide +kernel)) (by decide +kernel)
set_option maxRecDepth 100000 in
theorem uX3_widestLiving : gj_YC yX3_widestLiving cX3_widestLiving 1 (some .int) 0 3 := ⟨⟨⟨gj_in (List.mem_of_getElem? (i := 423) rfl) (by decide +kernel), gj_in (List.mem_of_getElem? (i := 60) (by decide +kernel)) (by decide +kernel), by decide +kernel, by decide +kernel, by decide⟩, gj_in (List.mem_of_getElem? (i := 421) (by decide +kernel)) (by decide +kernel), gj_in (List.mem_of_getElem? (i := 422) (by decide +kernel)) (by decide +kernel)⟩, TX3, 6, rfl⟩
theorem wm_X9_77 : Cond.methodLink RX9 77 yX0_has ∈ gj_tb := gj_in (List.mem_of_getElem? (i := 408) (by decide +kernel)) (by decide +kernel)
set_option maxRecDepth 100000 in
theorem uX0_has : gj_YC yX0_has cX0_has 2 (some .boolean) 1 0 := ⟨⟨⟨gj_in (List.mem_of_getElem? (i := 411) rfl) (by decide +kernel), gj_in (List.mem_of_getElem? (i := 59) (by decide +kernel)) (by decide +kernel), by decide +kernel, by decide +kernel, by decide⟩, gj_in (List.mem_of_getElem? (i := 409) (by decide +kernel)) (by decide +kernel), gj_in (List.mem_of_getElem? (i := 410) (by decide +kernel)) (by decide +kernel)⟩, TX0, 10, rfl⟩
theorem wf_X9_81 : gj_F RX9 81 0 0 RX0 TX0 10 := ⟨rfl, by decide, iX0, gj_in (List.mem_of_getElem? (i := 211) (by decide +kernel)) (by decide +kernel), rfl⟩
theorem wf_X9_85 : gj_F RX9 85 3 0 RX3 TX3 6 := ⟨rfl, by decide, iX3, gj_in (List.mem_of_getElem? (i := 160) (by decide +kernel)) (by decide +kernel), rfl⟩
theorem wf_X9_90 : gj_F RX9 90 3 1 RX3 TX3 6 := ⟨rfl, by decide, iX3, gj_in (List.mem_of_getElem? (i := 163) (by decide +kernel)) (by decide +kernel), rfl⟩
theorem wf_X9_93 : gj_F RX9 93 3 2 RX3 TX3 6 := ⟨rfl, by decide, iX3, gj_in (List.mem_of_getElem? (i := 167) (by decide +kernel)) (by decide +kernel), rfl⟩
theorem wf_X9_96 : gj_F RX9 96 3 3 RX3 TX3 6 := ⟨rfl, by decide, iX3, gj_in (List.mem_of_getElem? (i := 171) (by decide +kernel)) (by decide +kernel), rfl⟩
theorem wf_X9_99 : gj_F RX9 99 3 4 RX3 TX3 6 := ⟨rfl, by decide, iX3, gj_in (List.mem_of_getElem? (i := 174) (by decide +kernel)) (by decide +kernel), rfl⟩
theorem wf_X9_103 : gj_F RX9 103 3 5 RX3 TX3 6 := ⟨rfl, by decide, iX3, gj_in (List.mem_of_getElem? (i := 179) (by decide +kernel)) (by decide +kernel), rfl⟩
theorem wf_X9_23 : gj_F RX9 23 9 2 RX9 TX9 9 := ⟨rfl, by decide, iX9, gj_in (List.mem_of_getElem? (i := 361) (by decide +kernel)) (by decide +kernel), rfl⟩
theorem wf_X9_106 : gj_F RX9 106 6 0 RX6 TX6 5 := ⟨rfl, by decide, iX6, gj_in (List.mem_of_getElem? (i := 118) (by decide +kernel)) (by decide +kernel), rfl⟩
theorem wf_X9_109 : gj_F RX9 109 6 1 RX6 TX6 5 := ⟨rfl, by decide, iX6, gj_in (List.mem_of_getElem? (i := 121) (by decide +kernel)) (by decide +kernel), rfl⟩
theorem wm_X9_112 : Cond.methodLink RX9 112 yX3_stiff ∈ gj_tb := gj_in (List.mem_of_getElem? (i := 412) (by decide +kernel)) (by decide +kernel)
set_option maxRecDepth 100000 in
theorem uX3_stiff : gj_YC yX3_stiff cX3_stiff 1 (some .int) 0 3 := ⟨⟨⟨gj_in (List.mem_of_getElem? (i := 415) rfl) (by decide +kernel), gj_in (List.mem_of_getElem? (i := 60) (by decide +kernel)) (by decide +kernel), by decide +kernel, by decide +kernel, by decide⟩, gj_in (List.mem_of_getElem? (i := 413) (by decide +kernel)) (by decide +kernel), gj_in (List.mem_of_getElem? (i := 414) (by decide +kernel)) (by decide +kernel)⟩, TX3, 6, rfl⟩
theorem wm_X9_116 : Cond.methodLink RX9 116 yX6_live ∈ gj_tb := gj_in (List.mem_of_getElem? (i := 416) (by decide +kernel)) (by decide +kernel)
set_option maxRecDepth 100000 in
theorem uX6_live : gj_YC yX6_live cX6_live 3 (some .boolean) 2 6 := ⟨⟨⟨gj_in (List.mem_of_getElem? (i := 419) rfl) (by decide +kernel), gj_in (List.mem_of_getElem? (i := 56) (by decide +kernel)) (by decide +kernel), by decide +kernel, by decide +kernel, by decide⟩, gj_in (List.mem_of_getElem? (i := 417) (by decide +kernel)) (by decide +kernel), gj_in (List.mem_of_getElem? (i := 418) (by decide +kernel)) (by decide +kernel)⟩, TX6, 5, rfl⟩
theorem wm_X9_120 : Cond.methodLink RX9 120 yX9_mostOf ∈ gj_tb := gj_in (List.mem_of_getElem? (i := 428) (by decide +kernel)) (by decide +kernel)
set_option maxRecDepth 100000 in
theorem uX9_mostOf : gj_YS yX9_mostOf cX9_mostOf 1 (some .int) 1 := ⟨⟨gj_in (List.mem_of_getElem? (i := 430) rfl) (by decide +kernel), gj_in (List.mem_of_getElem? (i := 54) (by decide +kernel)) (by decide +kernel), by decide +kernel, by decide +kernel, by decide⟩, gj_in (List.mem_of_getElem? (i := 429) (by decide +kernel)) (by decide +kernel)⟩
theorem wf_X9_123 : gj_F RX9 123 0 6 RX0 TX0 10 := ⟨rfl, by decide, iX0, gj_in (List.mem_of_getElem? (i := 227) (by decide +kernel)) (by decide +kernel), rfl⟩
theorem wp_X0_6 : gj_FP TX0 6 10 := ⟨⟨tyX0, tyX0_ok⟩, nmX0, rfl⟩
theorem ws_X9_314 : Cond.fieldLink RX9 314 RX9 "ABOVE" "[I" ∈ gj_tb := gj_in (List.mem_of_getElem? (i := 454) (by decide +kernel)) (by decide +kernel)
theorem wm_X9_126 : Cond.methodLink RX9 126 yX9_isOfKind ∈ gj_tb := gj_in (List.mem_of_getElem? (i := 451) (by decide +kernel)) (by decide +kernel)
set_option maxRecDepth 100000 in
theorem uX9_isOfKind : gj_YS yX9_isOfKind cX9_isOfKind 4 (some .boolean) 2 := ⟨⟨gj_in (List.mem_of_getElem? (i := 453) rfl) (by decide +kernel), gj_in (List.mem_of_getElem? (i := 54) (by decide +kernel)) (by decide +kernel), by decide +kernel, by decide +kernel, by decide⟩, gj_in (List.mem_of_getElem? (i := 452) (by decide +kernel)) (by decide +kernel)⟩
theorem wf_X9_133 : gj_F RX9 133 0 1 RX0 TX0 10 := ⟨rfl, by decide, iX0, gj_in (List.mem_of_getElem? (i := 213) (by decide +kernel)) (by decide +kernel), rfl⟩
theorem wf_X9_130 : gj_F RX9 130 0 7 RX0 TX0 10 := ⟨rfl, by decide, iX0, gj_in (List.mem_of_getElem? (i := 229) (by decide +kernel)) (by decide +kernel), rfl⟩
theorem wk_X9_136 : Cond.constantLong RX9 136 (255) ∈ gj_tb := gj_in (List.mem_of_getElem? (i := 460) (by decide +kernel)) (by decide +kernel)
theorem wp_X0_7 : gj_FP TX0 7 10 := ⟨⟨tyX0, tyX0_ok⟩, nmX0, rfl⟩
theorem iX2 : ∀ w ∈ u_ws RX2 TX2 3, w ∈ gj_tb := gj_ins inX2 (by decide +kernel)
theorem wf_X2_9 : gj_F RX2 9 2 0 RX2 TX2 3 := ⟨rfl, by decide, iX2, gj_in (List.mem_of_getElem? (i := 199) (by decide +kernel)) (by decide +kernel), rfl⟩
theorem wm_X2_22 : Cond.methodLink RX2 22 arraycopyName ∈ gj_tb := gj_in (List.mem_of_getElem? (i := 512) (by decide +kernel)) (by decide +kernel)
theorem w_cpyN : Cond.native arraycopyName ∈ gj_tb := gj_in (List.mem_of_getElem? (i := 514) (by decide +kernel)) (by decide +kernel)
theorem w_cpyS : Cond.static arraycopyName ∈ gj_tb := gj_in (List.mem_of_getElem? (i := 513) (by decide +kernel)) (by decide +kernel)
theorem w_cpyI : Cond.initialized "java/lang/System" ∈ gj_tb := gj_in (List.mem_of_getElem? (i := 67) (by decide +kernel)) (by decide +kernel)
theorem wf_X2_18 : gj_F RX2 18 2 2 RX2 TX2 3 := ⟨rfl, by decide, iX2, gj_in (List.mem_of_getElem? (i := 201) (by decide +kernel)) (by decide +kernel), rfl⟩
theorem wp_X2_2 : gj_FP TX2 2 3 := ⟨⟨tyX2, tyX2_ok⟩, nmX2, rfl⟩
theorem iX4 : ∀ w ∈ u_ws RX4 TX4 5, w ∈ gj_tb := gj_ins inX4 (by decide +kernel)
theorem wf_X4_29 : gj_F RX4 29 4 1 RX4 TX4 5 := ⟨rfl, by decide, iX4, gj_in (List.mem_of_getElem? (i := 319) (by decide +kernel)) (by decide +kernel), rfl⟩
theorem wf_X4_22 : gj_F RX4 22 4 3 RX4 TX4 5 := ⟨rfl, by decide, iX4, gj_in (List.mem_of_getElem? (i := 322) (by decide +kernel)) (by decide +kernel), rfl⟩
theorem wf_X4_18 : gj_F RX4 18 4 2 RX4 TX4 5 := ⟨rfl, by decide, iX4, gj_in (List.mem_of_getElem? (i := 321) (by decide +kernel)) (by decide +kernel), rfl⟩
theorem wf_X4_26 : gj_F RX4 26 4 4 RX4 TX4 5 := ⟨rfl, by decide, iX4, gj_in (List.mem_of_getElem? (i := 323) (by decide +kernel)) (by decide +kernel), rfl⟩
theorem wf_X4_12 : gj_F RX4 12 4 0 RX4 TX4 5 := ⟨rfl, by decide, iX4, gj_in (List.mem_of_getElem? (i := 317) (by decide +kernel)) (by decide +kernel), rfl⟩
theorem wm_X4_57 : Cond.methodLink RX4 57 yX2_add ∈ gj_tb := gj_in (List.mem_of_getElem? (i := 493) (by decide +kernel)) (by decide +kernel)
set_option maxRecDepth 100000 in
theorem uX2_add : gj_YC yX2_add cX2_add 2 none 1 2 := ⟨⟨⟨gj_in (List.mem_of_getElem? (i := 496) rfl) (by decide +kernel), gj_in (List.mem_of_getElem? (i := 61) (by decide +kernel)) (by decide +kernel), by decide +kernel, by decide +kernel, by decide⟩, gj_in (List.mem_of_getElem? (i := 494) (by decide +kernel)) (by decide +kernel), gj_in (List.mem_of_getElem? (i := 495) (by decide +kernel)) (by decide +kernel)⟩, TX2, 3, rfl⟩
theorem wm_X4_49 : Cond.methodLink RX4 49 yX4_next ∈ gj_tb := gj_in (List.mem_of_getElem? (i := 482) (by decide +kernel)) (by decide +kernel)
set_option maxRecDepth 100000 in
theorem uX4_next : gj_YC yX4_next cX4_next 1 (some .int) 0 4 := ⟨⟨⟨gj_in (List.mem_of_getElem? (i := 485) rfl) (by decide +kernel), gj_in (List.mem_of_getElem? (i := 64) (by decide +kernel)) (by decide +kernel), by decide +kernel, by decide +kernel, by decide⟩, gj_in (List.mem_of_getElem? (i := 484) (by decide +kernel)) (by decide +kernel), gj_in (List.mem_of_getElem? (i := 4) (by decide +kernel)) (by decide +kernel)⟩, TX4, 5, rfl⟩
theorem wm_X4_61 : Cond.methodLink RX4 61 yX4_isDigit ∈ gj_tb := gj_in (List.mem_of_getElem? (i := 486) (by decide +kernel)) (by decide +kernel)
set_option maxRecDepth 100000 in
theorem uX4_isDigit : gj_YS yX4_isDigit cX4_isDigit 1 (some .boolean) 1 := ⟨⟨gj_in (List.mem_of_getElem? (i := 488) rfl) (by decide +kernel), gj_in (List.mem_of_getElem? (i := 64) (by decide +kernel)) (by decide +kernel), by decide +kernel, by decide +kernel, by decide⟩, gj_in (List.mem_of_getElem? (i := 487) (by decide +kernel)) (by decide +kernel)⟩
theorem wp_X4_1 : gj_FP TX4 1 5 := ⟨⟨tyX4, tyX4_ok⟩, nmX4, rfl⟩
theorem wm_X4_53 : Cond.methodLink RX4 53 yX4_levelOf ∈ gj_tb := gj_in (List.mem_of_getElem? (i := 505) (by decide +kernel)) (by decide +kernel)
set_option maxRecDepth 100000 in
theorem uX4_levelOf : gj_YS yX4_levelOf cX4_levelOf 1 (some .int) 1 := ⟨⟨gj_in (List.mem_of_getElem? (i := 507) rfl) (by decide +kernel), gj_in (List.mem_of_getElem? (i := 64) (by decide +kernel)) (by decide +kernel), by decide +kernel, by decide +kernel, by decide⟩, gj_in (List.mem_of_getElem? (i := 506) (by decide +kernel)) (by decide +kernel)⟩
theorem wm_X4_41 : Cond.methodLink RX4 41 yX4_readLevel ∈ gj_tb := gj_in (List.mem_of_getElem? (i := 474) (by decide +kernel)) (by decide +kernel)
set_option maxRecDepth 100000 in
theorem uX4_readLevel : gj_YC yX4_readLevel cX4_readLevel 6 (some .boolean) 2 4 := ⟨⟨⟨gj_in (List.mem_of_getElem? (i := 477) rfl) (by decide +kernel), gj_in (List.mem_of_getElem? (i := 64) (by decide +kernel)) (by decide +kernel), by decide +kernel, by decide +kernel, by decide⟩, gj_in (List.mem_of_getElem? (i := 476) (by decide +kernel)) (by decide +kernel), gj_in (List.mem_of_getElem? (i := 2) (by decide +kernel)) (by decide +kernel)⟩, TX4, 5, rfl⟩
theorem wm_X4_45 : Cond.methodLink RX4 45 yX4_readSingle ∈ gj_tb := gj_in (List.mem_of_getElem? (i := 478) (by decide +kernel)) (by decide +kernel)
set_option maxRecDepth 100000 in
theorem uX4_readSingle : gj_YC yX4_readSingle cX4_readSingle 4 (some .boolean) 1 4 := ⟨⟨⟨gj_in (List.mem_of_getElem? (i := 481) rfl) (by decide +kernel), gj_in (List.mem_of_getElem? (i := 64) (by decide +kernel)) (by decide +kernel), by decide +kernel, by decide +kernel, by decide⟩, gj_in (List.mem_of_getElem? (i := 480) (by decide +kernel)) (by decide +kernel), gj_in (List.mem_of_getElem? (i := 3) (by decide +kernel)) (by decide +kernel)⟩, TX4, 5, rfl⟩
theorem wm_X4_67 : Cond.methodLink RX4 67 yX4_readInside ∈ gj_tb := gj_in (List.mem_of_getElem? (i := 497) (by decide +kernel)) (by decide +kernel)
set_option maxRecDepth 100000 in
theorem uX4_readInside : gj_YC yX4_readInside cX4_readInside 4 (some .boolean) 2 4 := ⟨⟨⟨gj_in (List.mem_of_getElem? (i := 500) rfl) (by decide +kernel), gj_in (List.mem_of_getElem? (i := 64) (by decide +kernel)) (by decide +kernel), by decide +kernel, by decide +kernel, by decide⟩, gj_in (List.mem_of_getElem? (i := 499) (by decide +kernel)) (by decide +kernel), gj_in (List.mem_of_getElem? (i := 6) (by decide +kernel)) (by decide +kernel)⟩, TX4, 5, rfl⟩
theorem wm_X4_70 : Cond.methodLink RX4 70 yX4_nameOf ∈ gj_tb := gj_in (List.mem_of_getElem? (i := 501) (by decide +kernel)) (by decide +kernel)
set_option maxRecDepth 100000 in
theorem uX4_nameOf : gj_YC yX4_nameOf cX4_nameOf 2 (some .int) 1 4 := ⟨⟨⟨gj_in (List.mem_of_getElem? (i := 504) rfl) (by decide +kernel), gj_in (List.mem_of_getElem? (i := 64) (by decide +kernel)) (by decide +kernel), by decide +kernel, by decide +kernel, by decide⟩, gj_in (List.mem_of_getElem? (i := 503) (by decide +kernel)) (by decide +kernel), gj_in (List.mem_of_getElem? (i := 7) (by decide +kernel)) (by decide +kernel)⟩, TX4, 5, rfl⟩
theorem wm_X4_64 : Cond.methodLink RX4 64 yX4_readNumber ∈ gj_tb := gj_in (List.mem_of_getElem? (i := 489) (by decide +kernel)) (by decide +kernel)
set_option maxRecDepth 100000 in
theorem uX4_readNumber : gj_YC yX4_readNumber cX4_readNumber 3 none 0 4 := ⟨⟨⟨gj_in (List.mem_of_getElem? (i := 492) rfl) (by decide +kernel), gj_in (List.mem_of_getElem? (i := 64) (by decide +kernel)) (by decide +kernel), by decide +kernel, by decide +kernel, by decide⟩, gj_in (List.mem_of_getElem? (i := 491) (by decide +kernel)) (by decide +kernel), gj_in (List.mem_of_getElem? (i := 5) (by decide +kernel)) (by decide +kernel)⟩, TX4, 5, rfl⟩
theorem wp_X4_2 : gj_FP TX4 2 5 := ⟨⟨tyX4, tyX4_ok⟩, nmX4, rfl⟩
theorem wm_X4_32 : Cond.methodLink RX4 32 Lib.Math.min.name ∈ gj_tb := gj_in (List.mem_of_getElem? (i := 469) (by decide +kernel)) (by decide +kernel)
theorem w_mmin : Cond.static Lib.Math.min.name ∈ gj_tb ∧ Cond.initialized "java/lang/Math" ∈ gj_tb ∧ Cond.code Lib.Math.min.name Lib.Math.min.code 2 (some .int) ∈ gj_tb := ⟨gj_in (List.mem_of_getElem? (i := 115) (by decide +kernel)) (by decide +kernel), gj_in (List.mem_of_getElem? (i := 58) (by decide +kernel)) (by decide +kernel), gj_in (List.mem_of_getElem? (i := 116) (by decide +kernel)) (by decide +kernel)⟩
theorem wp_X4_3 : gj_FP TX4 3 5 := ⟨⟨tyX4, tyX4_ok⟩, nmX4, rfl⟩
theorem wp_X4_4 : gj_FP TX4 4 5 := ⟨⟨tyX4, tyX4_ok⟩, nmX4, rfl⟩
theorem wm_X4_38 : Cond.methodLink RX4 38 yX2_clear ∈ gj_tb := gj_in (List.mem_of_getElem? (i := 470) (by decide +kernel)) (by decide +kernel)
set_option maxRecDepth 100000 in
theorem uX2_clear : gj_YC yX2_clear cX2_clear 1 none 0 2 := ⟨⟨⟨gj_in (List.mem_of_getElem? (i := 473) rfl) (by decide +kernel), gj_in (List.mem_of_getElem? (i := 61) (by decide +kernel)) (by decide +kernel), by decide +kernel, by decide +kernel, by decide⟩, gj_in (List.mem_of_getElem? (i := 471) (by decide +kernel)) (by decide +kernel), gj_in (List.mem_of_getElem? (i := 472) (by decide +kernel)) (by decide +kernel)⟩, TX2, 3, rfl⟩
theorem wf_X9_47 : gj_F RX9 47 9 6 RX9 TX9 9 := ⟨rfl, by decide, iX9, gj_in (List.mem_of_getElem? (i := 365) (by decide +kernel)) (by decide +kernel), rfl⟩
theorem wm_X9_138 : Cond.methodLink RX9 138 yX4_read ∈ gj_tb := gj_in (List.mem_of_getElem? (i := 465) (by decide +kernel)) (by decide +kernel)
set_option maxRecDepth 100000 in
theorem uX4_read : gj_YC yX4_read cX4_read 4 (some .boolean) 3 4 := ⟨⟨⟨gj_in (List.mem_of_getElem? (i := 468) rfl) (by decide +kernel), gj_in (List.mem_of_getElem? (i := 64) (by decide +kernel)) (by decide +kernel), by decide +kernel, by decide +kernel, by decide⟩, gj_in (List.mem_of_getElem? (i := 466) (by decide +kernel)) (by decide +kernel), gj_in (List.mem_of_getElem? (i := 467) (by decide +kernel)) (by decide +kernel)⟩, TX4, 5, rfl⟩
theorem wf_X9_142 : gj_F RX9 142 4 1 RX4 TX4 5 := ⟨rfl, by decide, iX4, gj_in (List.mem_of_getElem? (i := 320) (by decide +kernel)) (by decide +kernel), rfl⟩
theorem wf_X9_145 : gj_F RX9 145 0 2 RX0 TX0 10 := ⟨rfl, by decide, iX0, gj_in (List.mem_of_getElem? (i := 215) (by decide +kernel)) (by decide +kernel), rfl⟩
theorem wf_X9_149 : gj_F RX9 149 4 0 RX4 TX4 5 := ⟨rfl, by decide, iX4, gj_in (List.mem_of_getElem? (i := 318) (by decide +kernel)) (by decide +kernel), rfl⟩
theorem wm_X9_153 : Cond.methodLink RX9 153 yX2_copyFrom ∈ gj_tb := gj_in (List.mem_of_getElem? (i := 508) (by decide +kernel)) (by decide +kernel)
set_option maxRecDepth 100000 in
theorem uX2_copyFrom : gj_YC yX2_copyFrom cX2_copyFrom 2 none 1 2 := ⟨⟨⟨gj_in (List.mem_of_getElem? (i := 511) rfl) (by decide +kernel), gj_in (List.mem_of_getElem? (i := 61) (by decide +kernel)) (by decide +kernel), by decide +kernel, by decide +kernel, by decide⟩, gj_in (List.mem_of_getElem? (i := 509) (by decide +kernel)) (by decide +kernel), gj_in (List.mem_of_getElem? (i := 510) (by decide +kernel)) (by decide +kernel)⟩, TX2, 3, rfl⟩
theorem wf_X2_15 : gj_F RX2 15 2 1 RX2 TX2 3 := ⟨rfl, by decide, iX2, gj_in (List.mem_of_getElem? (i := 200) (by decide +kernel)) (by decide +kernel), rfl⟩
theorem wm_X2_28 : Cond.methodLink RX2 28 yX2_valueOf ∈ gj_tb := gj_in (List.mem_of_getElem? (i := 531) (by decide +kernel)) (by decide +kernel)
set_option maxRecDepth 100000 in
theorem uX2_valueOf : gj_YS yX2_valueOf cX2_valueOf 4 (some .int) 4 := ⟨⟨gj_in (List.mem_of_getElem? (i := 533) rfl) (by decide +kernel), gj_in (List.mem_of_getElem? (i := 61) (by decide +kernel)) (by decide +kernel), by decide +kernel, by decide +kernel, by decide⟩, gj_in (List.mem_of_getElem? (i := 532) (by decide +kernel)) (by decide +kernel)⟩
theorem wm_X2_32 : Cond.methodLink RX2 32 yX2_joined ∈ gj_tb := gj_in (List.mem_of_getElem? (i := 534) (by decide +kernel)) (by decide +kernel)
set_option maxRecDepth 100000 in
theorem uX2_joined : gj_YS yX2_joined cX2_joined 3 (some .int) 3 := ⟨⟨gj_in (List.mem_of_getElem? (i := 536) rfl) (by decide +kernel), gj_in (List.mem_of_getElem? (i := 61) (by decide +kernel)) (by decide +kernel), by decide +kernel, by decide +kernel, by decide⟩, gj_in (List.mem_of_getElem? (i := 535) (by decide +kernel)) (by decide +kernel)⟩
theorem wm_X0_87 : Cond.methodLink RX0 87 Lib.Math.min.name ∈ gj_tb := gj_in (List.mem_of_getElem? (i := 537) (by decide +kernel)) (by decide +kernel)
theorem wm_X0_93 : Cond.methodLink RX0 93 Lib.Math.max.name ∈ gj_tb := gj_in (List.mem_of_getElem? (i := 538) (by decide +kernel)) (by decide +kernel)
theorem w_mmax : Cond.static Lib.Math.max.name ∈ gj_tb ∧ Cond.initialized "java/lang/Math" ∈ gj_tb ∧ Cond.code Lib.Math.max.name Lib.Math.max.code 2 (some .int) ∈ gj_tb := ⟨gj_in (List.mem_of_getElem? (i := 112) (by decide +kernel)) (by decide +kernel), gj_in (List.mem_of_getElem? (i := 58) (by decide +kernel)) (by decide +kernel), gj_in (List.mem_of_getElem? (i := 113) (by decide +kernel)) (by decide +kernel)⟩
theorem wf_X0_23 : gj_F RX0 23 0 2 RX0 TX0 10 := ⟨rfl, by decide, iX0, gj_in (List.mem_of_getElem? (i := 214) (by decide +kernel)) (by decide +kernel), rfl⟩
theorem wm_X0_79 : Cond.methodLink RX0 79 yX2_isMissing ∈ gj_tb := gj_in (List.mem_of_getElem? (i := 523) (by decide +kernel)) (by decide +kernel)
set_option maxRecDepth 100000 in
theorem uX2_isMissing : gj_YC yX2_isMissing cX2_isMissing 1 (some .boolean) 0 2 := ⟨⟨⟨gj_in (List.mem_of_getElem? (i := 526) rfl) (by decide +kernel), gj_in (List.mem_of_getElem? (i := 61) (by decide +kernel)) (by decide +kernel), by decide +kernel, by decide +kernel, by decide⟩, gj_in (List.mem_of_getElem? (i := 524) (by decide +kernel)) (by decide +kernel), gj_in (List.mem_of_getElem? (i := 525) (by decide +kernel)) (by decide +kernel)⟩, TX2, 3, rfl⟩
theorem wm_X0_83 : Cond.methodLink RX0 83 yX2_workOut ∈ gj_tb := gj_in (List.mem_of_getElem? (i := 527) (by decide +kernel)) (by decide +kernel)
set_option maxRecDepth 100000 in
theorem uX2_workOut : gj_YC yX2_workOut cX2_workOut 7 (some .int) 3 2 := ⟨⟨⟨gj_in (List.mem_of_getElem? (i := 530) rfl) (by decide +kernel), gj_in (List.mem_of_getElem? (i := 61) (by decide +kernel)) (by decide +kernel), by decide +kernel, by decide +kernel, by decide⟩, gj_in (List.mem_of_getElem? (i := 528) (by decide +kernel)) (by decide +kernel), gj_in (List.mem_of_getElem? (i := 529) (by decide +kernel)) (by decide +kernel)⟩, TX2, 3, rfl⟩
theorem wm_X9_159 : Cond.methodLink RX9 159 yX0_gives ∈ gj_tb := gj_in (List.mem_of_getElem? (i := 519) (by decide +kernel)) (by decide +kernel)
set_option maxRecDepth 100000 in
theorem uX0_gives : gj_YC yX0_gives cX0_gives 6 (some .int) 4 0 := ⟨⟨⟨gj_in (List.mem_of_getElem? (i := 522) rfl) (by decide +kernel), gj_in (List.mem_of_getElem? (i := 59) (by decide +kernel)) (by decide +kernel), by decide +kernel, by decide +kernel, by decide⟩, gj_in (List.mem_of_getElem? (i := 520) (by decide +kernel)) (by decide +kernel), gj_in (List.mem_of_getElem? (i := 521) (by decide +kernel)) (by decide +kernel)⟩, TX0, 10, rfl⟩
theorem wf_X0_68 : gj_F RX0 68 3 2 RX3 TX3 6 := ⟨rfl, by decide, iX3, gj_in (List.mem_of_getElem? (i := 168) (by decide +kernel)) (by decide +kernel), rfl⟩
theorem iX1 : ∀ w ∈ u_ws RX1 TX1 5, w ∈ gj_tb := gj_ins inX1 (by decide +kernel)
theorem wf_X1_9 : gj_F RX1 9 1 0 RX1 TX1 5 := ⟨rfl, by decide, iX1, gj_in (List.mem_of_getElem? (i := 268) (by decide +kernel)) (by decide +kernel), rfl⟩
theorem wf_X1_25 : gj_F RX1 25 1 4 RX1 TX1 5 := ⟨rfl, by decide, iX1, gj_in (List.mem_of_getElem? (i := 274) (by decide +kernel)) (by decide +kernel), rfl⟩
theorem wm_X1_41 : Cond.methodLink RX1 41 Lib.Math.min.name ∈ gj_tb := gj_in (List.mem_of_getElem? (i := 577) (by decide +kernel)) (by decide +kernel)
theorem wp_X1_0 : gj_FP TX1 0 5 := ⟨⟨tyX1, tyX1_ok⟩, nmX1, rfl⟩
theorem wf_X1_18 : gj_F RX1 18 1 2 RX1 TX1 5 := ⟨rfl, by decide, iX1, gj_in (List.mem_of_getElem? (i := 272) (by decide +kernel)) (by decide +kernel), rfl⟩
theorem wf_X1_22 : gj_F RX1 22 1 3 RX1 TX1 5 := ⟨rfl, by decide, iX1, gj_in (List.mem_of_getElem? (i := 273) (by decide +kernel)) (by decide +kernel), rfl⟩
theorem wm_X1_44 : Cond.methodLink RX1 44 yX1_go ∈ gj_tb := gj_in (List.mem_of_getElem? (i := 573) (by decide +kernel)) (by decide +kernel)
set_option maxRecDepth 100000 in
theorem uX1_go : gj_YC yX1_go cX1_go 2 none 1 1 := ⟨⟨⟨gj_in (List.mem_of_getElem? (i := 576) rfl) (by decide +kernel), gj_in (List.mem_of_getElem? (i := 63) (by decide +kernel)) (by decide +kernel), by decide +kernel, by decide +kernel, by decide⟩, gj_in (List.mem_of_getElem? (i := 574) (by decide +kernel)) (by decide +kernel), gj_in (List.mem_of_getElem? (i := 575) (by decide +kernel)) (by decide +kernel)⟩, TX1, 5, rfl⟩
theorem wf_X1_15 : gj_F RX1 15 1 1 RX1 TX1 5 := ⟨rfl, by decide, iX1, gj_in (List.mem_of_getElem? (i := 270) (by decide +kernel)) (by decide +kernel), rfl⟩
theorem wm_X1_48 : Cond.methodLink RX1 48 yX0_gives ∈ gj_tb := gj_in (List.mem_of_getElem? (i := 578) (by decide +kernel)) (by decide +kernel)
theorem wm_X1_35 : Cond.methodLink RX1 35 Lib.Math.max.name ∈ gj_tb := gj_in (List.mem_of_getElem? (i := 568) (by decide +kernel)) (by decide +kernel)
theorem wp_X1_1 : gj_FP TX1 1 5 := ⟨⟨tyX1, tyX1_ok⟩, nmX1, rfl⟩
theorem wp_X1_3 : gj_FP TX1 3 5 := ⟨⟨tyX1, tyX1_ok⟩, nmX1, rfl⟩
theorem wp_X1_4 : gj_FP TX1 4 5 := ⟨⟨tyX1, tyX1_ok⟩, nmX1, rfl⟩
theorem wf_X1_28 : gj_F RX1 28 3 5 RX3 TX3 6 := ⟨rfl, by decide, iX3, gj_in (List.mem_of_getElem? (i := 176) (by decide +kernel)) (by decide +kernel), rfl⟩
theorem wf_X1_31 : gj_F RX1 31 3 2 RX3 TX3 6 := ⟨rfl, by decide, iX3, gj_in (List.mem_of_getElem? (i := 164) (by decide +kernel)) (by decide +kernel), rfl⟩
theorem wp_X1_2 : gj_FP TX1 2 5 := ⟨⟨tyX1, tyX1_ok⟩, nmX1, rfl⟩
theorem wf_X1_32 : gj_F RX1 32 3 0 RX3 TX3 6 := ⟨rfl, by decide, iX3, gj_in (List.mem_of_getElem? (i := 158) (by decide +kernel)) (by decide +kernel), rfl⟩
theorem wf_X7_81 : gj_F RX7 81 6 0 RX6 TX6 5 := ⟨rfl, by decide, iX6, gj_in (List.mem_of_getElem? (i := 119) (by decide +kernel)) (by decide +kernel), rfl⟩
theorem wf_X7_86 : gj_F RX7 86 6 1 RX6 TX6 5 := ⟨rfl, by decide, iX6, gj_in (List.mem_of_getElem? (i := 122) (by decide +kernel)) (by decide +kernel), rfl⟩
theorem iX7 : ∀ w ∈ u_ws RX7 TX7 6, w ∈ gj_tb := gj_ins inX7 (by decide +kernel)
theorem wf_X7_12 : gj_F RX7 12 7 4 RX7 TX7 6 := ⟨rfl, by decide, iX7, gj_in (List.mem_of_getElem? (i := 294) (by decide +kernel)) (by decide +kernel), rfl⟩
theorem wm_X7_89 : Cond.methodLink RX7 89 yX0_gives ∈ gj_tb := gj_in (List.mem_of_getElem? (i := 563) (by decide +kernel)) (by decide +kernel)
theorem wm_X7_93 : Cond.methodLink RX7 93 yX1_pace ∈ gj_tb := gj_in (List.mem_of_getElem? (i := 564) (by decide +kernel)) (by decide +kernel)
set_option maxRecDepth 100000 in
theorem uX1_pace : gj_YC yX1_pace cX1_pace 5 none 4 1 := ⟨⟨⟨gj_in (List.mem_of_getElem? (i := 567) rfl) (by decide +kernel), gj_in (List.mem_of_getElem? (i := 63) (by decide +kernel)) (by decide +kernel), by decide +kernel, by decide +kernel, by decide⟩, gj_in (List.mem_of_getElem? (i := 565) (by decide +kernel)) (by decide +kernel), gj_in (List.mem_of_getElem? (i := 566) (by decide +kernel)) (by decide +kernel)⟩, TX1, 5, rfl⟩
theorem wm_X7_64 : Cond.methodLink RX7 64 yX1_begin ∈ gj_tb := gj_in (List.mem_of_getElem? (i := 555) (by decide +kernel)) (by decide +kernel)
set_option maxRecDepth 100000 in
theorem uX1_begin : gj_YC yX1_begin cX1_begin 3 none 2 1 := ⟨⟨⟨gj_in (List.mem_of_getElem? (i := 558) rfl) (by decide +kernel), gj_in (List.mem_of_getElem? (i := 63) (by decide +kernel)) (by decide +kernel), by decide +kernel, by decide +kernel, by decide⟩, gj_in (List.mem_of_getElem? (i := 556) (by decide +kernel)) (by decide +kernel), gj_in (List.mem_of_getElem? (i := 557) (by decide +kernel)) (by decide +kernel)⟩, TX1, 5, rfl⟩
theorem wf_X7_68 : gj_F RX7 68 3 0 RX3 TX3 6 := ⟨rfl, by decide, iX3, gj_in (List.mem_of_getElem? (i := 159) (by decide +kernel)) (by decide +kernel), rfl⟩
theorem wf_X7_71 : gj_F RX7 71 3 3 RX3 TX3 6 := ⟨rfl, by decide, iX3, gj_in (List.mem_of_getElem? (i := 170) (by decide +kernel)) (by decide +kernel), rfl⟩
theorem wf_X7_74 : gj_F RX7 74 0 6 RX0 TX0 10 := ⟨rfl, by decide, iX0, gj_in (List.mem_of_getElem? (i := 226) (by decide +kernel)) (by decide +kernel), rfl⟩
theorem wm_X7_77 : Cond.methodLink RX7 77 yX7_pace ∈ gj_tb := gj_in (List.mem_of_getElem? (i := 559) (by decide +kernel)) (by decide +kernel)
set_option maxRecDepth 100000 in
theorem uX7_pace : gj_YC yX7_pace cX7_pace 8 none 5 7 := ⟨⟨⟨gj_in (List.mem_of_getElem? (i := 562) rfl) (by decide +kernel), gj_in (List.mem_of_getElem? (i := 62) (by decide +kernel)) (by decide +kernel), by decide +kernel, by decide +kernel, by decide⟩, gj_in (List.mem_of_getElem? (i := 561) (by decide +kernel)) (by decide +kernel), gj_in (List.mem_of_getElem? (i := 9) (by decide +kernel)) (by decide +kernel)⟩, TX7, 6, rfl⟩
theorem wf_X7_61 : gj_F RX7 61 0 5 RX0 TX0 10 := ⟨rfl, by decide, iX0, gj_in (List.mem_of_getElem? (i := 223) (by decide +kernel)) (by decide +kernel), rfl⟩
theorem wm_X7_100 : Cond.methodLink RX7 100 yX1_goAndLapse ∈ gj_tb := gj_in (List.mem_of_getElem? (i := 569) (by decide +kernel)) (by decide +kernel)
set_option maxRecDepth 100000 in
theorem uX1_goAndLapse : gj_YC yX1_goAndLapse cX1_goAndLapse 3 none 2 1 := ⟨⟨⟨gj_in (List.mem_of_getElem? (i := 572) rfl) (by decide +kernel), gj_in (List.mem_of_getElem? (i := 63) (by decide +kernel)) (by decide +kernel), by decide +kernel, by decide +kernel, by decide⟩, gj_in (List.mem_of_getElem? (i := 570) (by decide +kernel)) (by decide +kernel), gj_in (List.mem_of_getElem? (i := 571) (by decide +kernel)) (by decide +kernel)⟩, TX1, 5, rfl⟩
theorem wf_X7_104 : gj_F RX7 104 1 1 RX1 TX1 5 := ⟨rfl, by decide, iX1, gj_in (List.mem_of_getElem? (i := 271) (by decide +kernel)) (by decide +kernel), rfl⟩
theorem wf_X7_40 : gj_F RX7 40 0 0 RX0 TX0 10 := ⟨rfl, by decide, iX0, gj_in (List.mem_of_getElem? (i := 210) (by decide +kernel)) (by decide +kernel), rfl⟩
theorem wm_X7_96 : Cond.methodLink RX7 96 yX7_follow ∈ gj_tb := gj_in (List.mem_of_getElem? (i := 551) (by decide +kernel)) (by decide +kernel)
set_option maxRecDepth 100000 in
theorem uX7_follow : gj_YC yX7_follow cX7_follow 5 none 4 7 := ⟨⟨⟨gj_in (List.mem_of_getElem? (i := 554) rfl) (by decide +kernel), gj_in (List.mem_of_getElem? (i := 62) (by decide +kernel)) (by decide +kernel), by decide +kernel, by decide +kernel, by decide⟩, gj_in (List.mem_of_getElem? (i := 553) (by decide +kernel)) (by decide +kernel), gj_in (List.mem_of_getElem? (i := 8) (by decide +kernel)) (by decide +kernel)⟩, TX7, 6, rfl⟩
theorem wf_X7_35 : gj_F RX7 35 0 4 RX0 TX0 10 := ⟨rfl, by decide, iX0, gj_in (List.mem_of_getElem? (i := 220) (by decide +kernel)) (by decide +kernel), rfl⟩
theorem wf_X7_44 : gj_F RX7 44 3 4 RX3 TX3 6 := ⟨rfl, by decide, iX3, gj_in (List.mem_of_getElem? (i := 172) (by decide +kernel)) (by decide +kernel), rfl⟩
theorem wm_X7_50 : Cond.methodLink RX7 50 yX7_debtBehind ∈ gj_tb := gj_in (List.mem_of_getElem? (i := 547) (by decide +kernel)) (by decide +kernel)
set_option maxRecDepth 100000 in
theorem uX7_debtBehind : gj_YC yX7_debtBehind cX7_debtBehind 7 (some .int) 5 7 := ⟨⟨⟨gj_in (List.mem_of_getElem? (i := 550) rfl) (by decide +kernel), gj_in (List.mem_of_getElem? (i := 62) (by decide +kernel)) (by decide +kernel), by decide +kernel, by decide +kernel, by decide⟩, gj_in (List.mem_of_getElem? (i := 548) (by decide +kernel)) (by decide +kernel), gj_in (List.mem_of_getElem? (i := 549) (by decide +kernel)) (by decide +kernel)⟩, TX7, 6, rfl⟩
theorem wf_X7_54 : gj_F RX7 54 3 2 RX3 TX3 6 := ⟨rfl, by decide, iX3, gj_in (List.mem_of_getElem? (i := 166) (by decide +kernel)) (by decide +kernel), rfl⟩
theorem wf_X7_57 : gj_F RX7 57 1 0 RX1 TX1 5 := ⟨rfl, by decide, iX1, gj_in (List.mem_of_getElem? (i := 269) (by decide +kernel)) (by decide +kernel), rfl⟩
theorem wf_X7_60 : gj_F RX7 60 3 5 RX3 TX3 6 := ⟨rfl, by decide, iX3, gj_in (List.mem_of_getElem? (i := 178) (by decide +kernel)) (by decide +kernel), rfl⟩
theorem wp_X0_5 : gj_FP TX0 5 10 := ⟨⟨tyX0, tyX0_ok⟩, nmX0, rfl⟩
theorem wf_X9_163 : gj_F RX9 163 0 5 RX0 TX0 10 := ⟨rfl, by decide, iX0, gj_in (List.mem_of_getElem? (i := 224) (by decide +kernel)) (by decide +kernel), rfl⟩
theorem wf_X9_40 : gj_F RX9 40 9 5 RX9 TX9 9 := ⟨rfl, by decide, iX9, gj_in (List.mem_of_getElem? (i := 364) (by decide +kernel)) (by decide +kernel), rfl⟩
theorem wm_X9_166 : Cond.methodLink RX9 166 yX7_pass ∈ gj_tb := gj_in (List.mem_of_getElem? (i := 543) (by decide +kernel)) (by decide +kernel)
set_option maxRecDepth 100000 in
theorem uX7_pass : gj_YC yX7_pass cX7_pass 6 none 3 7 := ⟨⟨⟨gj_in (List.mem_of_getElem? (i := 546) rfl) (by decide +kernel), gj_in (List.mem_of_getElem? (i := 62) (by decide +kernel)) (by decide +kernel), by decide +kernel, by decide +kernel, by decide⟩, gj_in (List.mem_of_getElem? (i := 544) (by decide +kernel)) (by decide +kernel), gj_in (List.mem_of_getElem? (i := 545) (by decide +kernel)) (by decide +kernel)⟩, TX7, 6, rfl⟩
theorem wm_X9_170 : Cond.methodLink RX9 170 yX0_debtOfAll ∈ gj_tb := gj_in (List.mem_of_getElem? (i := 579) (by decide +kernel)) (by decide +kernel)
set_option maxRecDepth 100000 in
theorem uX0_debtOfAll : gj_YC yX0_debtOfAll cX0_debtOfAll 3 (some .int) 0 0 := ⟨⟨⟨gj_in (List.mem_of_getElem? (i := 582) rfl) (by decide +kernel), gj_in (List.mem_of_getElem? (i := 59) (by decide +kernel)) (by decide +kernel), by decide +kernel, by decide +kernel, by decide⟩, gj_in (List.mem_of_getElem? (i := 580) (by decide +kernel)) (by decide +kernel), gj_in (List.mem_of_getElem? (i := 581) (by decide +kernel)) (by decide +kernel)⟩, TX0, 10, rfl⟩
theorem wf_X0_48 : gj_F RX0 48 0 9 RX0 TX0 10 := ⟨rfl, by decide, iX0, gj_in (List.mem_of_getElem? (i := 233) (by decide +kernel)) (by decide +kernel), rfl⟩
theorem wk_X0_78 : Cond.constant RX0 78 (1103515245) ∈ gj_tb := gj_in (List.mem_of_getElem? (i := 591) (by decide +kernel)) (by decide +kernel)
theorem wp_X0_9 : gj_FP TX0 9 10 := ⟨⟨tyX0, tyX0_ok⟩, nmX0, rfl⟩
theorem wm_X9_173 : Cond.methodLink RX9 173 yX0_draw ∈ gj_tb := gj_in (List.mem_of_getElem? (i := 587) (by decide +kernel)) (by decide +kernel)
set_option maxRecDepth 100000 in
theorem uX0_draw : gj_YC yX0_draw cX0_draw 1 (some .int) 0 0 := ⟨⟨⟨gj_in (List.mem_of_getElem? (i := 590) rfl) (by decide +kernel), gj_in (List.mem_of_getElem? (i := 59) (by decide +kernel)) (by decide +kernel), by decide +kernel, by decide +kernel, by decide⟩, gj_in (List.mem_of_getElem? (i := 588) (by decide +kernel)) (by decide +kernel), gj_in (List.mem_of_getElem? (i := 589) (by decide +kernel)) (by decide +kernel)⟩, TX0, 10, rfl⟩
theorem wk_J6_265 : Cond.constant RJ6 265 (1431655765) ∈ gj_tb := gj_in (List.mem_of_getElem? (i := 611) (by decide +kernel)) (by decide +kernel)
theorem wk_J6_266 : Cond.constant RJ6 266 (858993459) ∈ gj_tb := gj_in (List.mem_of_getElem? (i := 612) (by decide +kernel)) (by decide +kernel)
theorem wk_J6_267 : Cond.constant RJ6 267 (252645135) ∈ gj_tb := gj_in (List.mem_of_getElem? (i := 613) (by decide +kernel)) (by decide +kernel)
theorem wm_X6_56 : Cond.methodLink RX6 56 yJ6_bitCount_0f7a4 ∈ gj_tb := gj_in (List.mem_of_getElem? (i := 608) (by decide +kernel)) (by decide +kernel)
set_option maxRecDepth 100000 in
theorem uJ6_bitCount_0f7a4 : gj_YS yJ6_bitCount_0f7a4 cJ6_bitCount_0f7a4 1 (some .int) 1 := ⟨⟨gj_in (List.mem_of_getElem? (i := 610) rfl) (by decide +kernel), gj_in (List.mem_of_getElem? (i := 68) (by decide +kernel)) (by decide +kernel), by decide +kernel, by decide +kernel, by decide⟩, gj_in (List.mem_of_getElem? (i := 609) (by decide +kernel)) (by decide +kernel)⟩
theorem wf_X6_15 : gj_F RX6 15 6 1 RX6 TX6 5 := ⟨rfl, by decide, iX6, gj_in (List.mem_of_getElem? (i := 120) (by decide +kernel)) (by decide +kernel), rfl⟩
theorem wm_X6_52 : Cond.methodLink RX6 52 yX6_isFewer ∈ gj_tb := gj_in (List.mem_of_getElem? (i := 604) (by decide +kernel)) (by decide +kernel)
set_option maxRecDepth 100000 in
theorem uX6_isFewer : gj_YC yX6_isFewer cX6_isFewer 3 (some .boolean) 2 6 := ⟨⟨⟨gj_in (List.mem_of_getElem? (i := 607) rfl) (by decide +kernel), gj_in (List.mem_of_getElem? (i := 56) (by decide +kernel)) (by decide +kernel), by decide +kernel, by decide +kernel, by decide⟩, gj_in (List.mem_of_getElem? (i := 606) (by decide +kernel)) (by decide +kernel), gj_in (List.mem_of_getElem? (i := 10) (by decide +kernel)) (by decide +kernel)⟩, TX6, 5, rfl⟩
theorem wm_X9_176 : Cond.methodLink RX9 176 yX6_fewestCreases ∈ gj_tb := gj_in (List.mem_of_getElem? (i := 600) (by decide +kernel)) (by decide +kernel)
set_option maxRecDepth 100000 in
theorem uX6_fewestCreases : gj_YC yX6_fewestCreases cX6_fewestCreases 5 (some .int) 2 6 := ⟨⟨⟨gj_in (List.mem_of_getElem? (i := 603) rfl) (by decide +kernel), gj_in (List.mem_of_getElem? (i := 56) (by decide +kernel)) (by decide +kernel), by decide +kernel, by decide +kernel, by decide⟩, gj_in (List.mem_of_getElem? (i := 601) (by decide +kernel)) (by decide +kernel), gj_in (List.mem_of_getElem? (i := 602) (by decide +kernel)) (by decide +kernel)⟩, TX6, 5, rfl⟩
theorem wm_X9_179 : Cond.methodLink RX9 179 yX9_orNone ∈ gj_tb := gj_in (List.mem_of_getElem? (i := 614) (by decide +kernel)) (by decide +kernel)
set_option maxRecDepth 100000 in
theorem uX9_orNone : gj_YC yX9_orNone cX9_orNone 2 (some .int) 1 9 := ⟨⟨⟨gj_in (List.mem_of_getElem? (i := 617) rfl) (by decide +kernel), gj_in (List.mem_of_getElem? (i := 54) (by decide +kernel)) (by decide +kernel), by decide +kernel, by decide +kernel, by decide⟩, gj_in (List.mem_of_getElem? (i := 616) (by decide +kernel)) (by decide +kernel), gj_in (List.mem_of_getElem? (i := 11) (by decide +kernel)) (by decide +kernel)⟩, TX9, 9, rfl⟩
theorem wm_X9_182 : Cond.methodLink RX9 182 yX6_howMany ∈ gj_tb := gj_in (List.mem_of_getElem? (i := 622) (by decide +kernel)) (by decide +kernel)
set_option maxRecDepth 100000 in
theorem uX6_howMany : gj_YC yX6_howMany cX6_howMany 5 (some .int) 2 6 := ⟨⟨⟨gj_in (List.mem_of_getElem? (i := 625) rfl) (by decide +kernel), gj_in (List.mem_of_getElem? (i := 56) (by decide +kernel)) (by decide +kernel), by decide +kernel, by decide +kernel, by decide⟩, gj_in (List.mem_of_getElem? (i := 623) (by decide +kernel)) (by decide +kernel), gj_in (List.mem_of_getElem? (i := 624) (by decide +kernel)) (by decide +kernel)⟩, TX6, 5, rfl⟩
theorem wm_X9_185 : Cond.methodLink RX9 185 yX6_leastOf ∈ gj_tb := gj_in (List.mem_of_getElem? (i := 626) (by decide +kernel)) (by decide +kernel)
set_option maxRecDepth 100000 in
theorem uX6_leastOf : gj_YC yX6_leastOf cX6_leastOf 4 (some .int) 2 6 := ⟨⟨⟨gj_in (List.mem_of_getElem? (i := 629) rfl) (by decide +kernel), gj_in (List.mem_of_getElem? (i := 56) (by decide +kernel)) (by decide +kernel), by decide +kernel, by decide +kernel, by decide⟩, gj_in (List.mem_of_getElem? (i := 627) (by decide +kernel)) (by decide +kernel), gj_in (List.mem_of_getElem? (i := 628) (by decide +kernel)) (by decide +kernel)⟩, TX6, 5, rfl⟩
theorem wf_X6_21 : gj_F RX6 21 6 3 RX6 TX6 5 := ⟨rfl, by decide, iX6, gj_in (List.mem_of_getElem? (i := 124) (by decide +kernel)) (by decide +kernel), rfl⟩
theorem wf_X6_24 : gj_F RX6 24 6 4 RX6 TX6 5 := ⟨rfl, by decide, iX6, gj_in (List.mem_of_getElem? (i := 125) (by decide +kernel)) (by decide +kernel), rfl⟩
theorem wm_X6_31 : Cond.methodLink RX6 31 yJ7_fill_53178 ∈ gj_tb := gj_in (List.mem_of_getElem? (i := 108) (by decide +kernel)) (by decide +kernel)
set_option maxRecDepth 100000 in
theorem uJ7_fill_53178 : gj_YS yJ7_fill_53178 cJ7_fill_53178 4 none 2 := ⟨⟨gj_in (List.mem_of_getElem? (i := 110) rfl) (by decide +kernel), gj_in (List.mem_of_getElem? (i := 57) (by decide +kernel)) (by decide +kernel), by decide +kernel, by decide +kernel, by decide⟩, gj_in (List.mem_of_getElem? (i := 109) (by decide +kernel)) (by decide +kernel)⟩
theorem wm_X9_188 : Cond.methodLink RX9 188 yX6_fewestFolds ∈ gj_tb := gj_in (List.mem_of_getElem? (i := 634) (by decide +kernel)) (by decide +kernel)
set_option maxRecDepth 100000 in
theorem uX6_fewestFolds : gj_YC yX6_fewestFolds cX6_fewestFolds 9 (some .int) 3 6 := ⟨⟨⟨gj_in (List.mem_of_getElem? (i := 637) rfl) (by decide +kernel), gj_in (List.mem_of_getElem? (i := 56) (by decide +kernel)) (by decide +kernel), by decide +kernel, by decide +kernel, by decide⟩, gj_in (List.mem_of_getElem? (i := 635) (by decide +kernel)) (by decide +kernel), gj_in (List.mem_of_getElem? (i := 636) (by decide +kernel)) (by decide +kernel)⟩, TX6, 5, rfl⟩
theorem wm_X9_192 : Cond.methodLink RX9 192 yX6_fewestUnfolded ∈ gj_tb := gj_in (List.mem_of_getElem? (i := 642) (by decide +kernel)) (by decide +kernel)
set_option maxRecDepth 100000 in
theorem uX6_fewestUnfolded : gj_YC yX6_fewestUnfolded cX6_fewestUnfolded 5 (some .int) 2 6 := ⟨⟨⟨gj_in (List.mem_of_getElem? (i := 645) rfl) (by decide +kernel), gj_in (List.mem_of_getElem? (i := 56) (by decide +kernel)) (by decide +kernel), by decide +kernel, by decide +kernel, by decide⟩, gj_in (List.mem_of_getElem? (i := 643) (by decide +kernel)) (by decide +kernel), gj_in (List.mem_of_getElem? (i := 644) (by decide +kernel)) (by decide +kernel)⟩, TX6, 5, rfl⟩
theorem wm_X9_195 : Cond.methodLink RX9 195 yX6_lookAlike ∈ gj_tb := gj_in (List.mem_of_getElem? (i := 650) (by decide +kernel)) (by decide +kernel)
set_option maxRecDepth 100000 in
theorem uX6_lookAlike : gj_YC yX6_lookAlike cX6_lookAlike 3 (some .boolean) 2 6 := ⟨⟨⟨gj_in (List.mem_of_getElem? (i := 653) rfl) (by decide +kernel), gj_in (List.mem_of_getElem? (i := 56) (by decide +kernel)) (by decide +kernel), by decide +kernel, by decide +kernel, by decide⟩, gj_in (List.mem_of_getElem? (i := 651) (by decide +kernel)) (by decide +kernel), gj_in (List.mem_of_getElem? (i := 652) (by decide +kernel)) (by decide +kernel)⟩, TX6, 5, rfl⟩
theorem wm_X7_109 : Cond.methodLink RX7 109 yX1_go ∈ gj_tb := gj_in (List.mem_of_getElem? (i := 666) (by decide +kernel)) (by decide +kernel)
theorem wm_X7_105 : Cond.methodLink RX7 105 yX7_farGone ∈ gj_tb := gj_in (List.mem_of_getElem? (i := 662) (by decide +kernel)) (by decide +kernel)
set_option maxRecDepth 100000 in
theorem uX7_farGone : gj_YC yX7_farGone cX7_farGone 4 (some .int) 2 7 := ⟨⟨⟨gj_in (List.mem_of_getElem? (i := 665) rfl) (by decide +kernel), gj_in (List.mem_of_getElem? (i := 62) (by decide +kernel)) (by decide +kernel), by decide +kernel, by decide +kernel, by decide⟩, gj_in (List.mem_of_getElem? (i := 664) (by decide +kernel)) (by decide +kernel), gj_in (List.mem_of_getElem? (i := 12) (by decide +kernel)) (by decide +kernel)⟩, TX7, 6, rfl⟩
theorem wm_X9_198 : Cond.methodLink RX9 198 yX7_farBehind ∈ gj_tb := gj_in (List.mem_of_getElem? (i := 658) (by decide +kernel)) (by decide +kernel)
set_option maxRecDepth 100000 in
theorem uX7_farBehind : gj_YC yX7_farBehind cX7_farBehind 7 (some .int) 5 7 := ⟨⟨⟨gj_in (List.mem_of_getElem? (i := 661) rfl) (by decide +kernel), gj_in (List.mem_of_getElem? (i := 62) (by decide +kernel)) (by decide +kernel), by decide +kernel, by decide +kernel, by decide⟩, gj_in (List.mem_of_getElem? (i := 659) (by decide +kernel)) (by decide +kernel), gj_in (List.mem_of_getElem? (i := 660) (by decide +kernel)) (by decide +kernel)⟩, TX7, 6, rfl⟩
theorem wm_X9_202 : Cond.methodLink RX9 202 yX7_debtBehind ∈ gj_tb := gj_in (List.mem_of_getElem? (i := 667) (by decide +kernel)) (by decide +kernel)
theorem wm_X7_113 : Cond.methodLink RX7 113 yX7_daysToGone ∈ gj_tb := gj_in (List.mem_of_getElem? (i := 676) (by decide +kernel)) (by decide +kernel)
set_option maxRecDepth 100000 in
theorem uX7_daysToGone : gj_YC yX7_daysToGone cX7_daysToGone 3 (some .int) 1 7 := ⟨⟨⟨gj_in (List.mem_of_getElem? (i := 679) rfl) (by decide +kernel), gj_in (List.mem_of_getElem? (i := 62) (by decide +kernel)) (by decide +kernel), by decide +kernel, by decide +kernel, by decide⟩, gj_in (List.mem_of_getElem? (i := 678) (by decide +kernel)) (by decide +kernel), gj_in (List.mem_of_getElem? (i := 13) (by decide +kernel)) (by decide +kernel)⟩, TX7, 6, rfl⟩
theorem wf_X7_22 : gj_F RX7 22 7 0 RX7 TX7 6 := ⟨rfl, by decide, iX7, gj_in (List.mem_of_getElem? (i := 286) (by decide +kernel)) (by decide +kernel), rfl⟩
theorem wp_X7_0 : gj_FP TX7 0 6 := ⟨⟨tyX7, tyX7_ok⟩, nmX7, rfl⟩
theorem wf_X7_26 : gj_F RX7 26 7 1 RX7 TX7 6 := ⟨rfl, by decide, iX7, gj_in (List.mem_of_getElem? (i := 288) (by decide +kernel)) (by decide +kernel), rfl⟩
theorem wp_X7_1 : gj_FP TX7 1 6 := ⟨⟨tyX7, tyX7_ok⟩, nmX7, rfl⟩
theorem wm_X9_206 : Cond.methodLink RX9 206 yX7_findNextGone ∈ gj_tb := gj_in (List.mem_of_getElem? (i := 672) (by decide +kernel)) (by decide +kernel)
set_option maxRecDepth 100000 in
theorem uX7_findNextGone : gj_YC yX7_findNextGone cX7_findNextGone 6 (some .boolean) 2 7 := ⟨⟨⟨gj_in (List.mem_of_getElem? (i := 675) rfl) (by decide +kernel), gj_in (List.mem_of_getElem? (i := 62) (by decide +kernel)) (by decide +kernel), by decide +kernel, by decide +kernel, by decide⟩, gj_in (List.mem_of_getElem? (i := 673) (by decide +kernel)) (by decide +kernel), gj_in (List.mem_of_getElem? (i := 674) (by decide +kernel)) (by decide +kernel)⟩, TX7, 6, rfl⟩
theorem wf_X9_210 : gj_F RX9 210 7 0 RX7 TX7 6 := ⟨rfl, by decide, iX7, gj_in (List.mem_of_getElem? (i := 287) (by decide +kernel)) (by decide +kernel), rfl⟩
theorem wf_X9_213 : gj_F RX9 213 7 1 RX7 TX7 6 := ⟨rfl, by decide, iX7, gj_in (List.mem_of_getElem? (i := 289) (by decide +kernel)) (by decide +kernel), rfl⟩
theorem wm_X7_121 : Cond.methodLink RX7 121 yX6_live ∈ gj_tb := gj_in (List.mem_of_getElem? (i := 689) (by decide +kernel)) (by decide +kernel)
theorem wf_X7_32 : gj_F RX7 32 7 3 RX7 TX7 6 := ⟨rfl, by decide, iX7, gj_in (List.mem_of_getElem? (i := 292) (by decide +kernel)) (by decide +kernel), rfl⟩
theorem wp_X7_3 : gj_FP TX7 3 6 := ⟨⟨tyX7, tyX7_ok⟩, nmX7, rfl⟩
theorem wf_X7_29 : gj_F RX7 29 7 2 RX7 TX7 6 := ⟨rfl, by decide, iX7, gj_in (List.mem_of_getElem? (i := 290) (by decide +kernel)) (by decide +kernel), rfl⟩
theorem wp_X7_2 : gj_FP TX7 2 6 := ⟨⟨tyX7, tyX7_ok⟩, nmX7, rfl⟩
theorem wm_X7_117 : Cond.methodLink RX7 117 yX3_stiff ∈ gj_tb := gj_in (List.mem_of_getElem? (i := 688) (by decide +kernel)) (by decide +kernel)
theorem wm_X9_216 : Cond.methodLink RX9 216 yX7_findFarthest ∈ gj_tb := gj_in (List.mem_of_getElem? (i := 684) (by decide +kernel)) (by decide +kernel)
set_option maxRecDepth 100000 in
theorem uX7_findFarthest : gj_YC yX7_findFarthest cX7_findFarthest 9 (some .boolean) 4 7 := ⟨⟨⟨gj_in (List.mem_of_getElem? (i := 687) rfl) (by decide +kernel), gj_in (List.mem_of_getElem? (i := 62) (by decide +kernel)) (by decide +kernel), by decide +kernel, by decide +kernel, by decide⟩, gj_in (List.mem_of_getElem? (i := 685) (by decide +kernel)) (by decide +kernel), gj_in (List.mem_of_getElem? (i := 686) (by decide +kernel)) (by decide +kernel)⟩, TX7, 6, rfl⟩
theorem wf_X9_220 : gj_F RX9 220 7 2 RX7 TX7 6 := ⟨rfl, by decide, iX7, gj_in (List.mem_of_getElem? (i := 291) (by decide +kernel)) (by decide +kernel), rfl⟩
theorem wf_X9_223 : gj_F RX9 223 7 3 RX7 TX7 6 := ⟨rfl, by decide, iX7, gj_in (List.mem_of_getElem? (i := 293) (by decide +kernel)) (by decide +kernel), rfl⟩
theorem iX5 : ∀ w ∈ u_ws RX5 TX5 3, w ∈ gj_tb := gj_ins inX5 (by decide +kernel)
theorem wf_X5_15 : gj_F RX5 15 5 1 RX5 TX5 3 := ⟨rfl, by decide, iX5, gj_in (List.mem_of_getElem? (i := 86) (by decide +kernel)) (by decide +kernel), rfl⟩
theorem wm_X7_125 : Cond.methodLink RX7 125 yX7_farBehind ∈ gj_tb := gj_in (List.mem_of_getElem? (i := 702) (by decide +kernel)) (by decide +kernel)
theorem wf_X9_15 : gj_F RX9 15 9 1 RX9 TX9 9 := ⟨rfl, by decide, iX9, gj_in (List.mem_of_getElem? (i := 360) (by decide +kernel)) (by decide +kernel), rfl⟩
theorem wm_X9_226 : Cond.methodLink RX9 226 yX5_isMissing ∈ gj_tb := gj_in (List.mem_of_getElem? (i := 694) (by decide +kernel)) (by decide +kernel)
set_option maxRecDepth 100000 in
theorem uX5_isMissing : gj_YC yX5_isMissing cX5_isMissing 1 (some .boolean) 0 5 := ⟨⟨⟨gj_in (List.mem_of_getElem? (i := 697) rfl) (by decide +kernel), gj_in (List.mem_of_getElem? (i := 55) (by decide +kernel)) (by decide +kernel), by decide +kernel, by decide +kernel, by decide⟩, gj_in (List.mem_of_getElem? (i := 695) (by decide +kernel)) (by decide +kernel), gj_in (List.mem_of_getElem? (i := 696) (by decide +kernel)) (by decide +kernel)⟩, TX5, 3, rfl⟩
theorem wf_X9_230 : gj_F RX9 230 5 2 RX5 TX5 3 := ⟨rfl, by decide, iX5, gj_in (List.mem_of_getElem? (i := 89) (by decide +kernel)) (by decide +kernel), rfl⟩
theorem wf_X9_231 : gj_F RX9 231 5 0 RX5 TX5 3 := ⟨rfl, by decide, iX5, gj_in (List.mem_of_getElem? (i := 85) (by decide +kernel)) (by decide +kernel), rfl⟩
theorem wm_X9_234 : Cond.methodLink RX9 234 yX7_fittingWinds ∈ gj_tb := gj_in (List.mem_of_getElem? (i := 698) (by decide +kernel)) (by decide +kernel)
set_option maxRecDepth 100000 in
theorem uX7_fittingWinds : gj_YC yX7_fittingWinds cX7_fittingWinds 9 (some .int) 4 7 := ⟨⟨⟨gj_in (List.mem_of_getElem? (i := 701) rfl) (by decide +kernel), gj_in (List.mem_of_getElem? (i := 62) (by decide +kernel)) (by decide +kernel), by decide +kernel, by decide +kernel, by decide⟩, gj_in (List.mem_of_getElem? (i := 699) (by decide +kernel)) (by decide +kernel), gj_in (List.mem_of_getElem? (i := 700) (by decide +kernel)) (by decide +kernel)⟩, TX7, 6, rfl⟩
theorem wm_X9_238 : Cond.methodLink RX9 238 yJ6_bitCount_0f7a4 ∈ gj_tb := gj_in (List.mem_of_getElem? (i := 703) (by decide +kernel)) (by decide +kernel)
theorem wm_X9_243 : Cond.methodLink RX9 243 yX7_debtOfAllBehind ∈ gj_tb := gj_in (List.mem_of_getElem? (i := 708) (by decide +kernel)) (by decide +kernel)
set_option maxRecDepth 100000 in
theorem uX7_debtOfAllBehind : gj_YC yX7_debtOfAllBehind cX7_debtOfAllBehind 6 (some .int) 3 7 := ⟨⟨⟨gj_in (List.mem_of_getElem? (i := 711) rfl) (by decide +kernel), gj_in (List.mem_of_getElem? (i := 62) (by decide +kernel)) (by decide +kernel), by decide +kernel, by decide +kernel, by decide⟩, gj_in (List.mem_of_getElem? (i := 709) (by decide +kernel)) (by decide +kernel), gj_in (List.mem_of_getElem? (i := 710) (by decide +kernel)) (by decide +kernel)⟩, TX7, 6, rfl⟩
theorem wm_X9_247 : Cond.methodLink RX9 247 yX7_bestDebtor ∈ gj_tb := gj_in (List.mem_of_getElem? (i := 716) (by decide +kernel)) (by decide +kernel)
set_option maxRecDepth 100000 in
theorem uX7_bestDebtor : gj_YC yX7_bestDebtor cX7_bestDebtor 9 (some .int) 3 7 := ⟨⟨⟨gj_in (List.mem_of_getElem? (i := 719) rfl) (by decide +kernel), gj_in (List.mem_of_getElem? (i := 62) (by decide +kernel)) (by decide +kernel), by decide +kernel, by decide +kernel, by decide⟩, gj_in (List.mem_of_getElem? (i := 717) (by decide +kernel)) (by decide +kernel), gj_in (List.mem_of_getElem? (i := 718) (by decide +kernel)) (by decide +kernel)⟩, TX7, 6, rfl⟩
theorem wm_X6_62 : Cond.methodLink RX6 62 yX3_stiff ∈ gj_tb := gj_in (List.mem_of_getElem? (i := 728) (by decide +kernel)) (by decide +kernel)
theorem wm_X6_65 : Cond.methodLink RX6 65 yX6_live ∈ gj_tb := gj_in (List.mem_of_getElem? (i := 729) (by decide +kernel)) (by decide +kernel)
theorem wm_X9_250 : Cond.methodLink RX9 250 yX6_livingSets ∈ gj_tb := gj_in (List.mem_of_getElem? (i := 724) (by decide +kernel)) (by decide +kernel)
set_option maxRecDepth 100000 in
theorem uX6_livingSets : gj_YC yX6_livingSets cX6_livingSets 5 (some .int) 1 6 := ⟨⟨⟨gj_in (List.mem_of_getElem? (i := 727) rfl) (by decide +kernel), gj_in (List.mem_of_getElem? (i := 56) (by decide +kernel)) (by decide +kernel), by decide +kernel, by decide +kernel, by decide⟩, gj_in (List.mem_of_getElem? (i := 725) (by decide +kernel)) (by decide +kernel), gj_in (List.mem_of_getElem? (i := 726) (by decide +kernel)) (by decide +kernel)⟩, TX6, 5, rfl⟩
theorem wm_X9_254 : Cond.methodLink RX9 254 yX6_foldableSets ∈ gj_tb := gj_in (List.mem_of_getElem? (i := 730) (by decide +kernel)) (by decide +kernel)
set_option maxRecDepth 100000 in
theorem uX6_foldableSets : gj_YC yX6_foldableSets cX6_foldableSets 5 (some .int) 1 6 := ⟨⟨⟨gj_in (List.mem_of_getElem? (i := 733) rfl) (by decide +kernel), gj_in (List.mem_of_getElem? (i := 56) (by decide +kernel)) (by decide +kernel), by decide +kernel, by decide +kernel, by decide⟩, gj_in (List.mem_of_getElem? (i := 731) (by decide +kernel)) (by decide +kernel), gj_in (List.mem_of_getElem? (i := 732) (by decide +kernel)) (by decide +kernel)⟩, TX6, 5, rfl⟩
theorem wm_X9_257 : Cond.methodLink RX9 257 yX9_commonDivisor ∈ gj_tb := gj_in (List.mem_of_getElem? (i := 734) (by decide +kernel)) (by decide +kernel)
set_option maxRecDepth 100000 in
theorem uX9_commonDivisor : gj_YS yX9_commonDivisor cX9_commonDivisor 6 (some .int) 2 := ⟨⟨gj_in (List.mem_of_getElem? (i := 736) rfl) (by decide +kernel), gj_in (List.mem_of_getElem? (i := 54) (by decide +kernel)) (by decide +kernel), by decide +kernel, by decide +kernel, by decide⟩, gj_in (List.mem_of_getElem? (i := 735) (by decide +kernel)) (by decide +kernel)⟩
theorem wf_X9_260 : gj_F RX9 260 0 9 RX0 TX0 10 := ⟨rfl, by decide, iX0, gj_in (List.mem_of_getElem? (i := 234) (by decide +kernel)) (by decide +kernel), rfl⟩
theorem ws_X8_44 : Cond.fieldLink RX8 44 RX8 "BODIES" "[I" ∈ gj_tb := gj_in (List.mem_of_getElem? (i := 756) (by decide +kernel)) (by decide +kernel)
theorem wm_X8_40 : Cond.methodLink RX8 40 yX8_perform ∈ gj_tb := gj_in (List.mem_of_getElem? (i := 759) (by decide +kernel)) (by decide +kernel)
set_option maxRecDepth 100000 in
theorem uX8_perform : gj_YC yX8_perform cX8_perform 4 (some .int) 3 8 := ⟨⟨⟨gj_in (List.mem_of_getElem? (i := 762) rfl) (by decide +kernel), gj_in (List.mem_of_getElem? (i := 65) (by decide +kernel)) (by decide +kernel), by decide +kernel, by decide +kernel, by decide⟩, gj_in (List.mem_of_getElem? (i := 761) (by decide +kernel)) (by decide +kernel), gj_in (List.mem_of_getElem? (i := 15) (by decide +kernel)) (by decide +kernel)⟩, TX8, 5, rfl⟩
theorem wm_X8_36 : Cond.methodLink RX8 36 yX8_bodyOf ∈ gj_tb := gj_in (List.mem_of_getElem? (i := 753) (by decide +kernel)) (by decide +kernel)
set_option maxRecDepth 100000 in
theorem uX8_bodyOf : gj_YS yX8_bodyOf cX8_bodyOf 5 (some .int) 2 := ⟨⟨gj_in (List.mem_of_getElem? (i := 755) rfl) (by decide +kernel), gj_in (List.mem_of_getElem? (i := 65) (by decide +kernel)) (by decide +kernel), by decide +kernel, by decide +kernel, by decide⟩, gj_in (List.mem_of_getElem? (i := 754) (by decide +kernel)) (by decide +kernel)⟩
theorem iX8 : ∀ w ∈ u_ws RX8 TX8 5, w ∈ gj_tb := gj_ins inX8 (by decide +kernel)
theorem wf_X8_15 : gj_F RX8 15 8 1 RX8 TX8 5 := ⟨rfl, by decide, iX8, gj_in (List.mem_of_getElem? (i := 343) (by decide +kernel)) (by decide +kernel), rfl⟩
theorem wf_X8_9 : gj_F RX8 9 8 0 RX8 TX8 5 := ⟨rfl, by decide, iX8, gj_in (List.mem_of_getElem? (i := 341) (by decide +kernel)) (by decide +kernel), rfl⟩
theorem wp_X8_1 : gj_FP TX8 1 5 := ⟨⟨tyX8, tyX8_ok⟩, nmX8, rfl⟩
theorem wf_X8_25 : gj_F RX8 25 8 4 RX8 TX8 5 := ⟨rfl, by decide, iX8, gj_in (List.mem_of_getElem? (i := 347) (by decide +kernel)) (by decide +kernel), rfl⟩
theorem wf_X8_19 : gj_F RX8 19 8 2 RX8 TX8 5 := ⟨rfl, by decide, iX8, gj_in (List.mem_of_getElem? (i := 345) (by decide +kernel)) (by decide +kernel), rfl⟩
theorem wm_X8_32 : Cond.methodLink RX8 32 yX8_say ∈ gj_tb := gj_in (List.mem_of_getElem? (i := 749) (by decide +kernel)) (by decide +kernel)
set_option maxRecDepth 100000 in
theorem uX8_say : gj_YC yX8_say cX8_say 6 (some .int) 4 8 := ⟨⟨⟨gj_in (List.mem_of_getElem? (i := 752) rfl) (by decide +kernel), gj_in (List.mem_of_getElem? (i := 65) (by decide +kernel)) (by decide +kernel), by decide +kernel, by decide +kernel, by decide⟩, gj_in (List.mem_of_getElem? (i := 751) (by decide +kernel)) (by decide +kernel), gj_in (List.mem_of_getElem? (i := 14) (by decide +kernel)) (by decide +kernel)⟩, TX8, 5, rfl⟩
theorem wf_X8_22 : gj_F RX8 22 8 3 RX8 TX8 5 := ⟨rfl, by decide, iX8, gj_in (List.mem_of_getElem? (i := 346) (by decide +kernel)) (by decide +kernel), rfl⟩
theorem wf_X8_28 : gj_F RX8 28 3 0 RX3 TX3 6 := ⟨rfl, by decide, iX3, gj_in (List.mem_of_getElem? (i := 157) (by decide +kernel)) (by decide +kernel), rfl⟩
theorem wp_X8_2 : gj_FP TX8 2 5 := ⟨⟨tyX8, tyX8_ok⟩, nmX8, rfl⟩
theorem wf_X8_31 : gj_F RX8 31 3 1 RX3 TX3 6 := ⟨rfl, by decide, iX3, gj_in (List.mem_of_getElem? (i := 162) (by decide +kernel)) (by decide +kernel), rfl⟩
theorem wp_X8_3 : gj_FP TX8 3 5 := ⟨⟨tyX8, tyX8_ok⟩, nmX8, rfl⟩
theorem wp_X8_4 : gj_FP TX8 4 5 := ⟨⟨tyX8, tyX8_ok⟩, nmX8, rfl⟩
theorem wf_X9_54 : gj_F RX9 54 9 7 RX9 TX9 9 := ⟨rfl, by decide, iX9, gj_in (List.mem_of_getElem? (i := 366) (by decide +kernel)) (by decide +kernel), rfl⟩
theorem wm_X9_263 : Cond.methodLink RX9 263 yX8_speak ∈ gj_tb := gj_in (List.mem_of_getElem? (i := 745) (by decide +kernel)) (by decide +kernel)
set_option maxRecDepth 100000 in
theorem uX8_speak : gj_YC yX8_speak cX8_speak 5 (some .int) 4 8 := ⟨⟨⟨gj_in (List.mem_of_getElem? (i := 748) rfl) (by decide +kernel), gj_in (List.mem_of_getElem? (i := 65) (by decide +kernel)) (by decide +kernel), by decide +kernel, by decide +kernel, by decide⟩, gj_in (List.mem_of_getElem? (i := 746) (by decide +kernel)) (by decide +kernel), gj_in (List.mem_of_getElem? (i := 747) (by decide +kernel)) (by decide +kernel)⟩, TX8, 5, rfl⟩
theorem wf_X9_267 : gj_F RX9 267 8 1 RX8 TX8 5 := ⟨rfl, by decide, iX8, gj_in (List.mem_of_getElem? (i := 344) (by decide +kernel)) (by decide +kernel), rfl⟩
theorem wf_X9_270 : gj_F RX9 270 8 0 RX8 TX8 5 := ⟨rfl, by decide, iX8, gj_in (List.mem_of_getElem? (i := 342) (by decide +kernel)) (by decide +kernel), rfl⟩
theorem wp_X5_1 : gj_FP TX5 1 3 := ⟨⟨tyX5, tyX5_ok⟩, nmX5, rfl⟩
theorem wf_X5_19 : gj_F RX5 19 5 2 RX5 TX5 3 := ⟨rfl, by decide, iX5, gj_in (List.mem_of_getElem? (i := 88) (by decide +kernel)) (by decide +kernel), rfl⟩
theorem wp_X5_2 : gj_FP TX5 2 3 := ⟨⟨tyX5, tyX5_ok⟩, nmX5, rfl⟩
theorem wf_X5_9 : gj_F RX5 9 5 0 RX5 TX5 3 := ⟨rfl, by decide, iX5, gj_in (List.mem_of_getElem? (i := 84) (by decide +kernel)) (by decide +kernel), rfl⟩
theorem wm_X5_22 : Cond.methodLink RX5 22 yJ7_fill_53178 ∈ gj_tb := gj_in (List.mem_of_getElem? (i := 775) (by decide +kernel)) (by decide +kernel)
theorem wm_X9_273 : Cond.methodLink RX9 273 yX5_begin ∈ gj_tb := gj_in (List.mem_of_getElem? (i := 771) (by decide +kernel)) (by decide +kernel)
set_option maxRecDepth 100000 in
theorem uX5_begin : gj_YC yX5_begin cX5_begin 3 none 2 5 := ⟨⟨⟨gj_in (List.mem_of_getElem? (i := 774) rfl) (by decide +kernel), gj_in (List.mem_of_getElem? (i := 55) (by decide +kernel)) (by decide +kernel), by decide +kernel, by decide +kernel, by decide⟩, gj_in (List.mem_of_getElem? (i := 772) (by decide +kernel)) (by decide +kernel), gj_in (List.mem_of_getElem? (i := 773) (by decide +kernel)) (by decide +kernel)⟩, TX5, 3, rfl⟩
theorem wm_X9_277 : Cond.methodLink RX9 277 yX5_lowestBits ∈ gj_tb := gj_in (List.mem_of_getElem? (i := 780) (by decide +kernel)) (by decide +kernel)
set_option maxRecDepth 100000 in
theorem uX5_lowestBits : gj_YC yX5_lowestBits cX5_lowestBits 2 (some .int) 1 5 := ⟨⟨⟨gj_in (List.mem_of_getElem? (i := 783) rfl) (by decide +kernel), gj_in (List.mem_of_getElem? (i := 55) (by decide +kernel)) (by decide +kernel), by decide +kernel, by decide +kernel, by decide⟩, gj_in (List.mem_of_getElem? (i := 781) (by decide +kernel)) (by decide +kernel), gj_in (List.mem_of_getElem? (i := 782) (by decide +kernel)) (by decide +kernel)⟩, TX5, 3, rfl⟩
theorem wf_X9_280 : gj_F RX9 280 5 1 RX5 TX5 3 := ⟨rfl, by decide, iX5, gj_in (List.mem_of_getElem? (i := 87) (by decide +kernel)) (by decide +kernel), rfl⟩
theorem wm_X9_283 : Cond.methodLink RX9 283 yX5_holds ∈ gj_tb := gj_in (List.mem_of_getElem? (i := 788) (by decide +kernel)) (by decide +kernel)
set_option maxRecDepth 100000 in
theorem uX5_holds : gj_YC yX5_holds cX5_holds 3 (some .boolean) 2 5 := ⟨⟨⟨gj_in (List.mem_of_getElem? (i := 791) rfl) (by decide +kernel), gj_in (List.mem_of_getElem? (i := 55) (by decide +kernel)) (by decide +kernel), by decide +kernel, by decide +kernel, by decide⟩, gj_in (List.mem_of_getElem? (i := 789) (by decide +kernel)) (by decide +kernel), gj_in (List.mem_of_getElem? (i := 790) (by decide +kernel)) (by decide +kernel)⟩, TX5, 3, rfl⟩
theorem wm_X9_286 : Cond.methodLink RX9 286 arraycopyName ∈ gj_tb := gj_in (List.mem_of_getElem? (i := 792) (by decide +kernel)) (by decide +kernel)
theorem wm_X9_292 : Cond.methodLink RX9 292 Lib.Math.min.name ∈ gj_tb := gj_in (List.mem_of_getElem? (i := 801) (by decide +kernel)) (by decide +kernel)
theorem wm_X0_55 : Cond.methodLink RX0 55 yX2_copyFrom ∈ gj_tb := gj_in (List.mem_of_getElem? (i := 814) (by decide +kernel)) (by decide +kernel)
theorem wf_X0_17 : gj_F RX0 17 0 1 RX0 TX0 10 := ⟨rfl, by decide, iX0, gj_in (List.mem_of_getElem? (i := 212) (by decide +kernel)) (by decide +kernel), rfl⟩
theorem wm_X0_58 : Cond.methodLink RX0 58 arraycopyName ∈ gj_tb := gj_in (List.mem_of_getElem? (i := 815) (by decide +kernel)) (by decide +kernel)
theorem wf_X0_27 : gj_F RX0 27 0 3 RX0 TX0 10 := ⟨rfl, by decide, iX0, gj_in (List.mem_of_getElem? (i := 216) (by decide +kernel)) (by decide +kernel), rfl⟩
theorem wf_X0_36 : gj_F RX0 36 0 5 RX0 TX0 10 := ⟨rfl, by decide, iX0, gj_in (List.mem_of_getElem? (i := 222) (by decide +kernel)) (by decide +kernel), rfl⟩
theorem wf_X0_39 : gj_F RX0 39 0 6 RX0 TX0 10 := ⟨rfl, by decide, iX0, gj_in (List.mem_of_getElem? (i := 225) (by decide +kernel)) (by decide +kernel), rfl⟩
theorem wf_X0_42 : gj_F RX0 42 0 7 RX0 TX0 10 := ⟨rfl, by decide, iX0, gj_in (List.mem_of_getElem? (i := 228) (by decide +kernel)) (by decide +kernel), rfl⟩
theorem wf_X0_45 : gj_F RX0 45 0 8 RX0 TX0 10 := ⟨rfl, by decide, iX0, gj_in (List.mem_of_getElem? (i := 230) (by decide +kernel)) (by decide +kernel), rfl⟩
theorem wp_X0_8 : gj_FP TX0 8 10 := ⟨⟨tyX0, tyX0_ok⟩, nmX0, rfl⟩
theorem wm_X0_51 : Cond.methodLink RX0 51 yX3_copyFrom ∈ gj_tb := gj_in (List.mem_of_getElem? (i := 810) (by decide +kernel)) (by decide +kernel)
set_option maxRecDepth 100000 in
theorem uX3_copyFrom : gj_YC yX3_copyFrom cX3_copyFrom 2 none 1 3 := ⟨⟨⟨gj_in (List.mem_of_getElem? (i := 813) rfl) (by decide +kernel), gj_in (List.mem_of_getElem? (i := 60) (by decide +kernel)) (by decide +kernel), by decide +kernel, by decide +kernel, by decide⟩, gj_in (List.mem_of_getElem? (i := 811) (by decide +kernel)) (by decide +kernel), gj_in (List.mem_of_getElem? (i := 812) (by decide +kernel)) (by decide +kernel)⟩, TX3, 6, rfl⟩
theorem wf_X9_34 : gj_F RX9 34 9 4 RX9 TX9 9 := ⟨rfl, by decide, iX9, gj_in (List.mem_of_getElem? (i := 363) (by decide +kernel)) (by decide +kernel), rfl⟩
theorem wm_X9_297 : Cond.methodLink RX9 297 yX0_copyFrom ∈ gj_tb := gj_in (List.mem_of_getElem? (i := 806) (by decide +kernel)) (by decide +kernel)
set_option maxRecDepth 100000 in
theorem uX0_copyFrom : gj_YC yX0_copyFrom cX0_copyFrom 3 none 1 0 := ⟨⟨⟨gj_in (List.mem_of_getElem? (i := 809) rfl) (by decide +kernel), gj_in (List.mem_of_getElem? (i := 59) (by decide +kernel)) (by decide +kernel), by decide +kernel, by decide +kernel, by decide⟩, gj_in (List.mem_of_getElem? (i := 807) (by decide +kernel)) (by decide +kernel), gj_in (List.mem_of_getElem? (i := 808) (by decide +kernel)) (by decide +kernel)⟩, TX0, 10, rfl⟩
theorem wf_X9_58 : gj_F RX9 58 9 8 RX9 TX9 9 := ⟨rfl, by decide, iX9, gj_in (List.mem_of_getElem? (i := 367) (by decide +kernel)) (by decide +kernel), rfl⟩
theorem wp_X9_8 : gj_FP TX9 8 9 := ⟨⟨tyX9, tyX9_ok⟩, nmX9, rfl⟩
theorem wf_X9_300 : gj_F RX9 300 0 8 RX0 TX0 10 := ⟨rfl, by decide, iX0, gj_in (List.mem_of_getElem? (i := 232) (by decide +kernel)) (by decide +kernel), rfl⟩
theorem wf_X9_303 : gj_F RX9 303 0 3 RX0 TX0 10 := ⟨rfl, by decide, iX0, gj_in (List.mem_of_getElem? (i := 218) (by decide +kernel)) (by decide +kernel), rfl⟩
theorem wf_X7_135 : gj_F RX7 135 0 8 RX0 TX0 10 := ⟨rfl, by decide, iX0, gj_in (List.mem_of_getElem? (i := 231) (by decide +kernel)) (by decide +kernel), rfl⟩
theorem wf_X7_138 : gj_F RX7 138 0 3 RX0 TX0 10 := ⟨rfl, by decide, iX0, gj_in (List.mem_of_getElem? (i := 217) (by decide +kernel)) (by decide +kernel), rfl⟩
theorem wf_X7_18 : gj_F RX7 18 7 5 RX7 TX7 6 := ⟨rfl, by decide, iX7, gj_in (List.mem_of_getElem? (i := 295) (by decide +kernel)) (by decide +kernel), rfl⟩
theorem wm_X7_129 : Cond.methodLink RX7 129 yJ7_fill_53178 ∈ gj_tb := gj_in (List.mem_of_getElem? (i := 832) (by decide +kernel)) (by decide +kernel)
theorem wm_X9_306 : Cond.methodLink RX9 306 yX7_firstWrong ∈ gj_tb := gj_in (List.mem_of_getElem? (i := 828) (by decide +kernel)) (by decide +kernel)
set_option maxRecDepth 100000 in
theorem uX7_firstWrong : gj_YC yX7_firstWrong cX7_firstWrong 6 (some .int) 2 7 := ⟨⟨⟨gj_in (List.mem_of_getElem? (i := 831) rfl) (by decide +kernel), gj_in (List.mem_of_getElem? (i := 62) (by decide +kernel)) (by decide +kernel), by decide +kernel, by decide +kernel, by decide⟩, gj_in (List.mem_of_getElem? (i := 829) (by decide +kernel)) (by decide +kernel), gj_in (List.mem_of_getElem? (i := 830) (by decide +kernel)) (by decide +kernel)⟩, TX7, 6, rfl⟩
theorem wf_X0_71 : gj_F RX0 71 3 4 RX3 TX3 6 := ⟨rfl, by decide, iX3, gj_in (List.mem_of_getElem? (i := 175) (by decide +kernel)) (by decide +kernel), rfl⟩
theorem wf_X0_75 : gj_F RX0 75 3 5 RX3 TX3 6 := ⟨rfl, by decide, iX3, gj_in (List.mem_of_getElem? (i := 180) (by decide +kernel)) (by decide +kernel), rfl⟩
theorem wm_X9_310 : Cond.methodLink RX9 310 yX0_upFrom ∈ gj_tb := gj_in (List.mem_of_getElem? (i := 837) (by decide +kernel)) (by decide +kernel)
set_option maxRecDepth 100000 in
theorem uX0_upFrom : gj_YC yX0_upFrom cX0_upFrom 4 (some .int) 1 0 := ⟨⟨⟨gj_in (List.mem_of_getElem? (i := 840) rfl) (by decide +kernel), gj_in (List.mem_of_getElem? (i := 59) (by decide +kernel)) (by decide +kernel), by decide +kernel, by decide +kernel, by decide⟩, gj_in (List.mem_of_getElem? (i := 838) (by decide +kernel)) (by decide +kernel), gj_in (List.mem_of_getElem? (i := 839) (by decide +kernel)) (by decide +kernel)⟩, TX0, 10, rfl⟩
theorem iX10 : ∀ w ∈ u_ws RX10 TX10 26, w ∈ gj_tb := gj_ins inX10 (by decide +kernel)
theorem wf_X10_22 : gj_F RX10 22 10 6 RX10 TX10 26 := ⟨rfl, by decide, iX10, gj_in (List.mem_of_getElem? (i := 857) (by decide +kernel)) (by decide +kernel), rfl⟩
theorem wk_X10_46 : Cond.constant RX10 46 (-1000000000) ∈ gj_tb := gj_in (List.mem_of_getElem? (i := 942) (by decide +kernel)) (by decide +kernel)
theorem wf_X10_7 : gj_F RX10 7 10 0 RX10 TX10 26 := ⟨rfl, by decide, iX10, gj_in (List.mem_of_getElem? (i := 851) (by decide +kernel)) (by decide +kernel), rfl⟩
theorem wm_X10_47 : Cond.methodLink RX10 47 yX10_in ∈ gj_tb := gj_in (List.mem_of_getElem? (i := 934) (by decide +kernel)) (by decide +kernel)
set_option maxRecDepth 100000 in
theorem uX10_in : gj_YS yX10_in cX10_in 3 (some .boolean) 3 := ⟨⟨gj_in (List.mem_of_getElem? (i := 936) rfl) (by decide +kernel), gj_in (List.mem_of_getElem? (i := 66) (by decide +kernel)) (by decide +kernel), by decide +kernel, by decide +kernel, by decide⟩, gj_in (List.mem_of_getElem? (i := 935) (by decide +kernel)) (by decide +kernel)⟩
theorem wk_X10_51 : Cond.constant RX10 51 (-1000000001) ∈ gj_tb := gj_in (List.mem_of_getElem? (i := 937) (by decide +kernel)) (by decide +kernel)
theorem wm_X10_52 : Cond.methodLink RX10 52 yX10_errs ∈ gj_tb := gj_in (List.mem_of_getElem? (i := 938) (by decide +kernel)) (by decide +kernel)
set_option maxRecDepth 100000 in
theorem uX10_errs : gj_YC yX10_errs cX10_errs 2 (some .int) 1 10 := ⟨⟨⟨gj_in (List.mem_of_getElem? (i := 941) rfl) (by decide +kernel), gj_in (List.mem_of_getElem? (i := 66) (by decide +kernel)) (by decide +kernel), by decide +kernel, by decide +kernel, by decide⟩, gj_in (List.mem_of_getElem? (i := 940) (by decide +kernel)) (by decide +kernel), gj_in (List.mem_of_getElem? (i := 16) (by decide +kernel)) (by decide +kernel)⟩, TX10, 26, rfl⟩
theorem wk_X10_56 : Cond.constant RX10 56 (-1000000004) ∈ gj_tb := gj_in (List.mem_of_getElem? (i := 943) (by decide +kernel)) (by decide +kernel)
theorem wm_X10_57 : Cond.methodLink RX10 57 yX10_gets ∈ gj_tb := gj_in (List.mem_of_getElem? (i := 944) (by decide +kernel)) (by decide +kernel)
set_option maxRecDepth 100000 in
theorem uX10_gets : gj_YC yX10_gets cX10_gets 4 none 3 10 := ⟨⟨⟨gj_in (List.mem_of_getElem? (i := 947) rfl) (by decide +kernel), gj_in (List.mem_of_getElem? (i := 66) (by decide +kernel)) (by decide +kernel), by decide +kernel, by decide +kernel, by decide⟩, gj_in (List.mem_of_getElem? (i := 946) (by decide +kernel)) (by decide +kernel), gj_in (List.mem_of_getElem? (i := 17) (by decide +kernel)) (by decide +kernel)⟩, TX10, 26, rfl⟩
theorem wf_X10_25 : gj_F RX10 25 10 15 RX10 TX10 26 := ⟨rfl, by decide, iX10, gj_in (List.mem_of_getElem? (i := 866) (by decide +kernel)) (by decide +kernel), rfl⟩
theorem wm_X10_166 : Cond.methodLink RX10 166 yX10_lies ∈ gj_tb := gj_in (List.mem_of_getElem? (i := 964) (by decide +kernel)) (by decide +kernel)
set_option maxRecDepth 100000 in
theorem uX10_lies : gj_YC yX10_lies cX10_lies 6 none 1 10 := ⟨⟨⟨gj_in (List.mem_of_getElem? (i := 967) rfl) (by decide +kernel), gj_in (List.mem_of_getElem? (i := 66) (by decide +kernel)) (by decide +kernel), by decide +kernel, by decide +kernel, by decide⟩, gj_in (List.mem_of_getElem? (i := 966) (by decide +kernel)) (by decide +kernel), gj_in (List.mem_of_getElem? (i := 21) (by decide +kernel)) (by decide +kernel)⟩, TX10, 26, rfl⟩
theorem wm_X10_65 : Cond.methodLink RX10 65 yX10_its ∈ gj_tb := gj_in (List.mem_of_getElem? (i := 956) (by decide +kernel)) (by decide +kernel)
set_option maxRecDepth 100000 in
theorem uX10_its : gj_YC yX10_its cX10_its 3 (some .int) 2 10 := ⟨⟨⟨gj_in (List.mem_of_getElem? (i := 959) rfl) (by decide +kernel), gj_in (List.mem_of_getElem? (i := 66) (by decide +kernel)) (by decide +kernel), by decide +kernel, by decide +kernel, by decide⟩, gj_in (List.mem_of_getElem? (i := 958) (by decide +kernel)) (by decide +kernel), gj_in (List.mem_of_getElem? (i := 19) (by decide +kernel)) (by decide +kernel)⟩, TX10, 26, rfl⟩
theorem wm_X10_69 : Cond.methodLink RX10 69 yX10_wide ∈ gj_tb := gj_in (List.mem_of_getElem? (i := 960) (by decide +kernel)) (by decide +kernel)
set_option maxRecDepth 100000 in
theorem uX10_wide : gj_YC yX10_wide cX10_wide 4 (some .int) 1 10 := ⟨⟨⟨gj_in (List.mem_of_getElem? (i := 963) rfl) (by decide +kernel), gj_in (List.mem_of_getElem? (i := 66) (by decide +kernel)) (by decide +kernel), by decide +kernel, by decide +kernel, by decide⟩, gj_in (List.mem_of_getElem? (i := 962) (by decide +kernel)) (by decide +kernel), gj_in (List.mem_of_getElem? (i := 20) (by decide +kernel)) (by decide +kernel)⟩, TX10, 26, rfl⟩
theorem wm_X10_170 : Cond.methodLink RX10 170 yX10_widest ∈ gj_tb := gj_in (List.mem_of_getElem? (i := 980) (by decide +kernel)) (by decide +kernel)
set_option maxRecDepth 100000 in
theorem uX10_widest : gj_YC yX10_widest cX10_widest 2 (some .int) 1 10 := ⟨⟨⟨gj_in (List.mem_of_getElem? (i := 983) rfl) (by decide +kernel), gj_in (List.mem_of_getElem? (i := 66) (by decide +kernel)) (by decide +kernel), by decide +kernel, by decide +kernel, by decide⟩, gj_in (List.mem_of_getElem? (i := 982) (by decide +kernel)) (by decide +kernel), gj_in (List.mem_of_getElem? (i := 25) (by decide +kernel)) (by decide +kernel)⟩, TX10, 26, rfl⟩
theorem wm_X10_61 : Cond.methodLink RX10 61 yX10_isPaper ∈ gj_tb := gj_in (List.mem_of_getElem? (i := 952) (by decide +kernel)) (by decide +kernel)
set_option maxRecDepth 100000 in
theorem uX10_isPaper : gj_YC yX10_isPaper cX10_isPaper 2 (some .boolean) 1 10 := ⟨⟨⟨gj_in (List.mem_of_getElem? (i := 955) rfl) (by decide +kernel), gj_in (List.mem_of_getElem? (i := 66) (by decide +kernel)) (by decide +kernel), by decide +kernel, by decide +kernel, by decide⟩, gj_in (List.mem_of_getElem? (i := 954) (by decide +kernel)) (by decide +kernel), gj_in (List.mem_of_getElem? (i := 18) (by decide +kernel)) (by decide +kernel)⟩, TX10, 26, rfl⟩
theorem wm_X10_72 : Cond.methodLink RX10 72 yX10_thick ∈ gj_tb := gj_in (List.mem_of_getElem? (i := 968) (by decide +kernel)) (by decide +kernel)
set_option maxRecDepth 100000 in
theorem uX10_thick : gj_YC yX10_thick cX10_thick 4 (some .int) 1 10 := ⟨⟨⟨gj_in (List.mem_of_getElem? (i := 971) rfl) (by decide +kernel), gj_in (List.mem_of_getElem? (i := 66) (by decide +kernel)) (by decide +kernel), by decide +kernel, by decide +kernel, by decide⟩, gj_in (List.mem_of_getElem? (i := 970) (by decide +kernel)) (by decide +kernel), gj_in (List.mem_of_getElem? (i := 22) (by decide +kernel)) (by decide +kernel)⟩, TX10, 26, rfl⟩
theorem wm_X10_75 : Cond.methodLink RX10 75 yX10_stiff ∈ gj_tb := gj_in (List.mem_of_getElem? (i := 972) (by decide +kernel)) (by decide +kernel)
set_option maxRecDepth 100000 in
theorem uX10_stiff : gj_YC yX10_stiff cX10_stiff 3 (some .int) 1 10 := ⟨⟨⟨gj_in (List.mem_of_getElem? (i := 975) rfl) (by decide +kernel), gj_in (List.mem_of_getElem? (i := 66) (by decide +kernel)) (by decide +kernel), by decide +kernel, by decide +kernel, by decide⟩, gj_in (List.mem_of_getElem? (i := 974) (by decide +kernel)) (by decide +kernel), gj_in (List.mem_of_getElem? (i := 23) (by decide +kernel)) (by decide +kernel)⟩, TX10, 26, rfl⟩
theorem wm_X10_78 : Cond.methodLink RX10 78 yX10_isAlive ∈ gj_tb := gj_in (List.mem_of_getElem? (i := 976) (by decide +kernel)) (by decide +kernel)
set_option maxRecDepth 100000 in
theorem uX10_isAlive : gj_YC yX10_isAlive cX10_isAlive 3 (some .boolean) 2 10 := ⟨⟨⟨gj_in (List.mem_of_getElem? (i := 979) rfl) (by decide +kernel), gj_in (List.mem_of_getElem? (i := 66) (by decide +kernel)) (by decide +kernel), by decide +kernel, by decide +kernel, by decide⟩, gj_in (List.mem_of_getElem? (i := 978) (by decide +kernel)) (by decide +kernel), gj_in (List.mem_of_getElem? (i := 24) (by decide +kernel)) (by decide +kernel)⟩, TX10, 26, rfl⟩
theorem wm_X10_82 : Cond.methodLink RX10 82 yX10_becomes ∈ gj_tb := gj_in (List.mem_of_getElem? (i := 988) (by decide +kernel)) (by decide +kernel)
set_option maxRecDepth 100000 in
theorem uX10_becomes : gj_YC yX10_becomes cX10_becomes 4 (some .int) 2 10 := ⟨⟨⟨gj_in (List.mem_of_getElem? (i := 991) rfl) (by decide +kernel), gj_in (List.mem_of_getElem? (i := 66) (by decide +kernel)) (by decide +kernel), by decide +kernel, by decide +kernel, by decide⟩, gj_in (List.mem_of_getElem? (i := 990) (by decide +kernel)) (by decide +kernel), gj_in (List.mem_of_getElem? (i := 26) (by decide +kernel)) (by decide +kernel)⟩, TX10, 26, rfl⟩
theorem wk_X10_88 : Cond.constant RX10 88 (-1000000005) ∈ gj_tb := gj_in (List.mem_of_getElem? (i := 1007) (by decide +kernel)) (by decide +kernel)
theorem wm_X10_85 : Cond.methodLink RX10 85 yX10_above ∈ gj_tb := gj_in (List.mem_of_getElem? (i := 1004) (by decide +kernel)) (by decide +kernel)
set_option maxRecDepth 100000 in
theorem uX10_above : gj_YS yX10_above cX10_above 1 (some .int) 1 := ⟨⟨gj_in (List.mem_of_getElem? (i := 1006) rfl) (by decide +kernel), gj_in (List.mem_of_getElem? (i := 66) (by decide +kernel)) (by decide +kernel), by decide +kernel, by decide +kernel, by decide⟩, gj_in (List.mem_of_getElem? (i := 1005) (by decide +kernel)) (by decide +kernel)⟩
theorem wf_X10_89 : gj_F RX10 89 10 9 RX10 TX10 26 := ⟨rfl, by decide, iX10, gj_in (List.mem_of_getElem? (i := 860) (by decide +kernel)) (by decide +kernel), rfl⟩
theorem wf_X10_93 : gj_F RX10 93 10 7 RX10 TX10 26 := ⟨rfl, by decide, iX10, gj_in (List.mem_of_getElem? (i := 858) (by decide +kernel)) (by decide +kernel), rfl⟩
theorem wf_X10_96 : gj_F RX10 96 10 14 RX10 TX10 26 := ⟨rfl, by decide, iX10, gj_in (List.mem_of_getElem? (i := 865) (by decide +kernel)) (by decide +kernel), rfl⟩
theorem wp_X10_14 : gj_FP TX10 14 26 := ⟨⟨tyX10, tyX10_ok⟩, nmX10, rfl⟩
theorem wf_X10_100 : gj_F RX10 100 10 8 RX10 TX10 26 := ⟨rfl, by decide, iX10, gj_in (List.mem_of_getElem? (i := 859) (by decide +kernel)) (by decide +kernel), rfl⟩
theorem wm_X10_103 : Cond.methodLink RX10 103 yX10_byteAt ∈ gj_tb := gj_in (List.mem_of_getElem? (i := 1044) (by decide +kernel)) (by decide +kernel)
set_option maxRecDepth 100000 in
theorem uX10_byteAt : gj_YC yX10_byteAt cX10_byteAt 2 (some .int) 1 10 := ⟨⟨⟨gj_in (List.mem_of_getElem? (i := 1047) rfl) (by decide +kernel), gj_in (List.mem_of_getElem? (i := 66) (by decide +kernel)) (by decide +kernel), by decide +kernel, by decide +kernel, by decide⟩, gj_in (List.mem_of_getElem? (i := 1046) (by decide +kernel)) (by decide +kernel), gj_in (List.mem_of_getElem? (i := 35) (by decide +kernel)) (by decide +kernel)⟩, TX10, 26, rfl⟩
theorem wm_X10_106 : Cond.methodLink RX10 106 yX10_isDigit ∈ gj_tb := gj_in (List.mem_of_getElem? (i := 1048) (by decide +kernel)) (by decide +kernel)
set_option maxRecDepth 100000 in
theorem uX10_isDigit : gj_YS yX10_isDigit cX10_isDigit 1 (some .boolean) 1 := ⟨⟨gj_in (List.mem_of_getElem? (i := 1050) rfl) (by decide +kernel), gj_in (List.mem_of_getElem? (i := 66) (by decide +kernel)) (by decide +kernel), by decide +kernel, by decide +kernel, by decide⟩, gj_in (List.mem_of_getElem? (i := 1049) (by decide +kernel)) (by decide +kernel)⟩
theorem wp_X10_8 : gj_FP TX10 8 26 := ⟨⟨tyX10, tyX10_ok⟩, nmX10, rfl⟩
theorem wf_X10_119 : gj_F RX10 119 10 13 RX10 TX10 26 := ⟨rfl, by decide, iX10, gj_in (List.mem_of_getElem? (i := 864) (by decide +kernel)) (by decide +kernel), rfl⟩
theorem wf_X10_116 : gj_F RX10 116 10 12 RX10 TX10 26 := ⟨rfl, by decide, iX10, gj_in (List.mem_of_getElem? (i := 863) (by decide +kernel)) (by decide +kernel), rfl⟩
theorem wf_X10_113 : gj_F RX10 113 10 11 RX10 TX10 26 := ⟨rfl, by decide, iX10, gj_in (List.mem_of_getElem? (i := 862) (by decide +kernel)) (by decide +kernel), rfl⟩
theorem wm_X10_109 : Cond.methodLink RX10 109 yX10_fails ∈ gj_tb := gj_in (List.mem_of_getElem? (i := 1059) (by decide +kernel)) (by decide +kernel)
set_option maxRecDepth 100000 in
theorem uX10_fails : gj_YC yX10_fails cX10_fails 1 (some .int) 0 10 := ⟨⟨⟨gj_in (List.mem_of_getElem? (i := 1062) rfl) (by decide +kernel), gj_in (List.mem_of_getElem? (i := 66) (by decide +kernel)) (by decide +kernel), by decide +kernel, by decide +kernel, by decide⟩, gj_in (List.mem_of_getElem? (i := 1061) (by decide +kernel)) (by decide +kernel), gj_in (List.mem_of_getElem? (i := 38) (by decide +kernel)) (by decide +kernel)⟩, TX10, 26, rfl⟩
theorem wf_X10_128 : gj_F RX10 128 10 10 RX10 TX10 26 := ⟨rfl, by decide, iX10, gj_in (List.mem_of_getElem? (i := 861) (by decide +kernel)) (by decide +kernel), rfl⟩
theorem wp_X10_10 : gj_FP TX10 10 26 := ⟨⟨tyX10, tyX10_ok⟩, nmX10, rfl⟩
theorem wm_X10_131 : Cond.methodLink RX10 131 yX10_factor ∈ gj_tb := gj_in (List.mem_of_getElem? (i := 1040) (by decide +kernel)) (by decide +kernel)
set_option maxRecDepth 100000 in
theorem uX10_factor : gj_YC yX10_factor cX10_factor 3 (some .int) 0 10 := ⟨⟨⟨gj_in (List.mem_of_getElem? (i := 1043) rfl) (by decide +kernel), gj_in (List.mem_of_getElem? (i := 66) (by decide +kernel)) (by decide +kernel), by decide +kernel, by decide +kernel, by decide⟩, gj_in (List.mem_of_getElem? (i := 1042) (by decide +kernel)) (by decide +kernel), gj_in (List.mem_of_getElem? (i := 34) (by decide +kernel)) (by decide +kernel)⟩, TX10, 26, rfl⟩
theorem wm_X10_134 : Cond.methodLink RX10 134 yX10_whole ∈ gj_tb := gj_in (List.mem_of_getElem? (i := 1020) (by decide +kernel)) (by decide +kernel)
set_option maxRecDepth 100000 in
theorem uX10_whole : gj_YC yX10_whole cX10_whole 3 (some .int) 0 10 := ⟨⟨⟨gj_in (List.mem_of_getElem? (i := 1023) rfl) (by decide +kernel), gj_in (List.mem_of_getElem? (i := 66) (by decide +kernel)) (by decide +kernel), by decide +kernel, by decide +kernel, by decide⟩, gj_in (List.mem_of_getElem? (i := 1022) (by decide +kernel)) (by decide +kernel), gj_in (List.mem_of_getElem? (i := 29) (by decide +kernel)) (by decide +kernel)⟩, TX10, 26, rfl⟩
theorem wm_X10_125 : Cond.methodLink RX10 125 yX10_named ∈ gj_tb := gj_in (List.mem_of_getElem? (i := 1055) (by decide +kernel)) (by decide +kernel)
set_option maxRecDepth 100000 in
theorem uX10_named : gj_YC yX10_named cX10_named 5 (some .int) 1 10 := ⟨⟨⟨gj_in (List.mem_of_getElem? (i := 1058) rfl) (by decide +kernel), gj_in (List.mem_of_getElem? (i := 66) (by decide +kernel)) (by decide +kernel), by decide +kernel, by decide +kernel, by decide⟩, gj_in (List.mem_of_getElem? (i := 1057) (by decide +kernel)) (by decide +kernel), gj_in (List.mem_of_getElem? (i := 37) (by decide +kernel)) (by decide +kernel)⟩, TX10, 26, rfl⟩
theorem wm_X10_122 : Cond.methodLink RX10 122 yX10_number ∈ gj_tb := gj_in (List.mem_of_getElem? (i := 1051) (by decide +kernel)) (by decide +kernel)
set_option maxRecDepth 100000 in
theorem uX10_number : gj_YC yX10_number cX10_number 3 (some .int) 0 10 := ⟨⟨⟨gj_in (List.mem_of_getElem? (i := 1054) rfl) (by decide +kernel), gj_in (List.mem_of_getElem? (i := 66) (by decide +kernel)) (by decide +kernel), by decide +kernel, by decide +kernel, by decide⟩, gj_in (List.mem_of_getElem? (i := 1053) (by decide +kernel)) (by decide +kernel), gj_in (List.mem_of_getElem? (i := 36) (by decide +kernel)) (by decide +kernel)⟩, TX10, 26, rfl⟩
theorem wm_X10_137 : Cond.methodLink RX10 137 yX10_product ∈ gj_tb := gj_in (List.mem_of_getElem? (i := 1036) (by decide +kernel)) (by decide +kernel)
set_option maxRecDepth 100000 in
theorem uX10_product : gj_YC yX10_product cX10_product 4 (some .int) 0 10 := ⟨⟨⟨gj_in (List.mem_of_getElem? (i := 1039) rfl) (by decide +kernel), gj_in (List.mem_of_getElem? (i := 66) (by decide +kernel)) (by decide +kernel), by decide +kernel, by decide +kernel, by decide⟩, gj_in (List.mem_of_getElem? (i := 1038) (by decide +kernel)) (by decide +kernel), gj_in (List.mem_of_getElem? (i := 33) (by decide +kernel)) (by decide +kernel)⟩, TX10, 26, rfl⟩
theorem wm_X10_140 : Cond.methodLink RX10 140 yX10_sum ∈ gj_tb := gj_in (List.mem_of_getElem? (i := 1032) (by decide +kernel)) (by decide +kernel)
set_option maxRecDepth 100000 in
theorem uX10_sum : gj_YC yX10_sum cX10_sum 4 (some .int) 0 10 := ⟨⟨⟨gj_in (List.mem_of_getElem? (i := 1035) rfl) (by decide +kernel), gj_in (List.mem_of_getElem? (i := 66) (by decide +kernel)) (by decide +kernel), by decide +kernel, by decide +kernel, by decide⟩, gj_in (List.mem_of_getElem? (i := 1034) (by decide +kernel)) (by decide +kernel), gj_in (List.mem_of_getElem? (i := 32) (by decide +kernel)) (by decide +kernel)⟩, TX10, 26, rfl⟩
theorem wm_X10_143 : Cond.methodLink RX10 143 yX10_compared ∈ gj_tb := gj_in (List.mem_of_getElem? (i := 1028) (by decide +kernel)) (by decide +kernel)
set_option maxRecDepth 100000 in
theorem uX10_compared : gj_YC yX10_compared cX10_compared 5 (some .int) 0 10 := ⟨⟨⟨gj_in (List.mem_of_getElem? (i := 1031) rfl) (by decide +kernel), gj_in (List.mem_of_getElem? (i := 66) (by decide +kernel)) (by decide +kernel), by decide +kernel, by decide +kernel, by decide⟩, gj_in (List.mem_of_getElem? (i := 1030) (by decide +kernel)) (by decide +kernel), gj_in (List.mem_of_getElem? (i := 31) (by decide +kernel)) (by decide +kernel)⟩, TX10, 26, rfl⟩
theorem wm_X10_146 : Cond.methodLink RX10 146 yX10_both ∈ gj_tb := gj_in (List.mem_of_getElem? (i := 1024) (by decide +kernel)) (by decide +kernel)
set_option maxRecDepth 100000 in
theorem uX10_both : gj_YC yX10_both cX10_both 3 (some .int) 0 10 := ⟨⟨⟨gj_in (List.mem_of_getElem? (i := 1027) rfl) (by decide +kernel), gj_in (List.mem_of_getElem? (i := 66) (by decide +kernel)) (by decide +kernel), by decide +kernel, by decide +kernel, by decide⟩, gj_in (List.mem_of_getElem? (i := 1026) (by decide +kernel)) (by decide +kernel), gj_in (List.mem_of_getElem? (i := 30) (by decide +kernel)) (by decide +kernel)⟩, TX10, 26, rfl⟩
theorem wp_X10_7 : gj_FP TX10 7 26 := ⟨⟨tyX10, tyX10_ok⟩, nmX10, rfl⟩
theorem wp_X10_9 : gj_FP TX10 9 26 := ⟨⟨tyX10, tyX10_ok⟩, nmX10, rfl⟩
theorem wp_X10_11 : gj_FP TX10 11 26 := ⟨⟨tyX10, tyX10_ok⟩, nmX10, rfl⟩
theorem wp_X10_12 : gj_FP TX10 12 26 := ⟨⟨tyX10, tyX10_ok⟩, nmX10, rfl⟩
theorem wp_X10_13 : gj_FP TX10 13 26 := ⟨⟨tyX10, tyX10_ok⟩, nmX10, rfl⟩
theorem wm_X10_153 : Cond.methodLink RX10 153 yX10_held ∈ gj_tb := gj_in (List.mem_of_getElem? (i := 1063) (by decide +kernel)) (by decide +kernel)
set_option maxRecDepth 100000 in
theorem uX10_held : gj_YS yX10_held cX10_held 3 (some .int) 3 := ⟨⟨gj_in (List.mem_of_getElem? (i := 1065) rfl) (by decide +kernel), gj_in (List.mem_of_getElem? (i := 66) (by decide +kernel)) (by decide +kernel), by decide +kernel, by decide +kernel, by decide⟩, gj_in (List.mem_of_getElem? (i := 1064) (by decide +kernel)) (by decide +kernel)⟩
theorem wm_X10_149 : Cond.methodLink RX10 149 yX10_walks ∈ gj_tb := gj_in (List.mem_of_getElem? (i := 1016) (by decide +kernel)) (by decide +kernel)
set_option maxRecDepth 100000 in
theorem uX10_walks : gj_YC yX10_walks cX10_walks 6 (some .int) 4 10 := ⟨⟨⟨gj_in (List.mem_of_getElem? (i := 1019) rfl) (by decide +kernel), gj_in (List.mem_of_getElem? (i := 66) (by decide +kernel)) (by decide +kernel), by decide +kernel, by decide +kernel, by decide⟩, gj_in (List.mem_of_getElem? (i := 1018) (by decide +kernel)) (by decide +kernel), gj_in (List.mem_of_getElem? (i := 28) (by decide +kernel)) (by decide +kernel)⟩, TX10, 26, rfl⟩
theorem wm_X10_157 : Cond.methodLink RX10 157 yX10_lawOf ∈ gj_tb := gj_in (List.mem_of_getElem? (i := 1012) (by decide +kernel)) (by decide +kernel)
set_option maxRecDepth 100000 in
theorem uX10_lawOf : gj_YC yX10_lawOf cX10_lawOf 6 (some .int) 4 10 := ⟨⟨⟨gj_in (List.mem_of_getElem? (i := 1015) rfl) (by decide +kernel), gj_in (List.mem_of_getElem? (i := 66) (by decide +kernel)) (by decide +kernel), by decide +kernel, by decide +kernel, by decide⟩, gj_in (List.mem_of_getElem? (i := 1014) (by decide +kernel)) (by decide +kernel), gj_in (List.mem_of_getElem? (i := 27) (by decide +kernel)) (by decide +kernel)⟩, TX10, 26, rfl⟩
theorem wk_X10_160 : Cond.constantLong RX10 160 (255) ∈ gj_tb := gj_in (List.mem_of_getElem? (i := 1070) (by decide +kernel)) (by decide +kernel)
theorem wf_X10_19 : gj_F RX10 19 10 3 RX10 TX10 26 := ⟨rfl, by decide, iX10, gj_in (List.mem_of_getElem? (i := 854) (by decide +kernel)) (by decide +kernel), rfl⟩
theorem wm_X10_162 : Cond.methodLink RX10 162 yX10_moveAll ∈ gj_tb := gj_in (List.mem_of_getElem? (i := 1075) (by decide +kernel)) (by decide +kernel)
set_option maxRecDepth 100000 in
theorem uX10_moveAll : gj_YC yX10_moveAll cX10_moveAll 4 none 2 10 := ⟨⟨⟨gj_in (List.mem_of_getElem? (i := 1078) rfl) (by decide +kernel), gj_in (List.mem_of_getElem? (i := 66) (by decide +kernel)) (by decide +kernel), by decide +kernel, by decide +kernel, by decide⟩, gj_in (List.mem_of_getElem? (i := 1077) (by decide +kernel)) (by decide +kernel), gj_in (List.mem_of_getElem? (i := 39) (by decide +kernel)) (by decide +kernel)⟩, TX10, 26, rfl⟩
theorem wm_X10_173 : Cond.methodLink RX10 173 yX10_isSet ∈ gj_tb := gj_in (List.mem_of_getElem? (i := 1083) (by decide +kernel)) (by decide +kernel)
set_option maxRecDepth 100000 in
theorem uX10_isSet : gj_YS yX10_isSet cX10_isSet 1 (some .boolean) 1 := ⟨⟨gj_in (List.mem_of_getElem? (i := 1085) rfl) (by decide +kernel), gj_in (List.mem_of_getElem? (i := 66) (by decide +kernel)) (by decide +kernel), by decide +kernel, by decide +kernel, by decide⟩, gj_in (List.mem_of_getElem? (i := 1084) (by decide +kernel)) (by decide +kernel)⟩
theorem wk_X10_182 : Cond.constant RX10 182 (-1000000002) ∈ gj_tb := gj_in (List.mem_of_getElem? (i := 1096) (by decide +kernel)) (by decide +kernel)
theorem wm_X10_179 : Cond.methodLink RX10 179 yX10_bits ∈ gj_tb := gj_in (List.mem_of_getElem? (i := 1093) (by decide +kernel)) (by decide +kernel)
set_option maxRecDepth 100000 in
theorem uX10_bits : gj_YS yX10_bits cX10_bits 3 (some .int) 1 := ⟨⟨gj_in (List.mem_of_getElem? (i := 1095) rfl) (by decide +kernel), gj_in (List.mem_of_getElem? (i := 66) (by decide +kernel)) (by decide +kernel), by decide +kernel, by decide +kernel, by decide⟩, gj_in (List.mem_of_getElem? (i := 1094) (by decide +kernel)) (by decide +kernel)⟩
theorem wm_X10_176 : Cond.methodLink RX10 176 yX10_areSides ∈ gj_tb := gj_in (List.mem_of_getElem? (i := 1090) (by decide +kernel)) (by decide +kernel)
set_option maxRecDepth 100000 in
theorem uX10_areSides : gj_YS yX10_areSides cX10_areSides 2 (some .boolean) 2 := ⟨⟨gj_in (List.mem_of_getElem? (i := 1092) rfl) (by decide +kernel), gj_in (List.mem_of_getElem? (i := 66) (by decide +kernel)) (by decide +kernel), by decide +kernel, by decide +kernel, by decide⟩, gj_in (List.mem_of_getElem? (i := 1091) (by decide +kernel)) (by decide +kernel)⟩
theorem wk_X10_183 : Cond.constant RX10 183 (-1000000003) ∈ gj_tb := gj_in (List.mem_of_getElem? (i := 1105) (by decide +kernel)) (by decide +kernel)
theorem wf_X10_28 : gj_F RX10 28 10 16 RX10 TX10 26 := ⟨rfl, by decide, iX10, gj_in (List.mem_of_getElem? (i := 867) (by decide +kernel)) (by decide +kernel), rfl⟩
theorem wm_X10_184 : Cond.methodLink RX10 184 yX10_areAlike ∈ gj_tb := gj_in (List.mem_of_getElem? (i := 1122) (by decide +kernel)) (by decide +kernel)
set_option maxRecDepth 100000 in
theorem uX10_areAlike : gj_YC yX10_areAlike cX10_areAlike 5 (some .boolean) 2 10 := ⟨⟨⟨gj_in (List.mem_of_getElem? (i := 1125) rfl) (by decide +kernel), gj_in (List.mem_of_getElem? (i := 66) (by decide +kernel)) (by decide +kernel), by decide +kernel, by decide +kernel, by decide⟩, gj_in (List.mem_of_getElem? (i := 1124) (by decide +kernel)) (by decide +kernel), gj_in (List.mem_of_getElem? (i := 40) (by decide +kernel)) (by decide +kernel)⟩, TX10, 26, rfl⟩
theorem wm_X10_187 : Cond.methodLink RX10 187 yX10_goes ∈ gj_tb := gj_in (List.mem_of_getElem? (i := 1138) (by decide +kernel)) (by decide +kernel)
set_option maxRecDepth 100000 in
theorem uX10_goes : gj_YC yX10_goes cX10_goes 5 (some .int) 1 10 := ⟨⟨⟨gj_in (List.mem_of_getElem? (i := 1141) rfl) (by decide +kernel), gj_in (List.mem_of_getElem? (i := 66) (by decide +kernel)) (by decide +kernel), by decide +kernel, by decide +kernel, by decide⟩, gj_in (List.mem_of_getElem? (i := 1140) (by decide +kernel)) (by decide +kernel), gj_in (List.mem_of_getElem? (i := 43) (by decide +kernel)) (by decide +kernel)⟩, TX10, 26, rfl⟩
theorem wm_X10_190 : Cond.methodLink RX10 190 yX10_oneDay ∈ gj_tb := gj_in (List.mem_of_getElem? (i := 1134) (by decide +kernel)) (by decide +kernel)
set_option maxRecDepth 100000 in
theorem uX10_oneDay : gj_YC yX10_oneDay cX10_oneDay 2 none 0 10 := ⟨⟨⟨gj_in (List.mem_of_getElem? (i := 1137) rfl) (by decide +kernel), gj_in (List.mem_of_getElem? (i := 66) (by decide +kernel)) (by decide +kernel), by decide +kernel, by decide +kernel, by decide⟩, gj_in (List.mem_of_getElem? (i := 1136) (by decide +kernel)) (by decide +kernel), gj_in (List.mem_of_getElem? (i := 42) (by decide +kernel)) (by decide +kernel)⟩, TX10, 26, rfl⟩
theorem wm_X10_193 : Cond.methodLink RX10 193 yX10_passes ∈ gj_tb := gj_in (List.mem_of_getElem? (i := 1130) (by decide +kernel)) (by decide +kernel)
set_option maxRecDepth 100000 in
theorem uX10_passes : gj_YC yX10_passes cX10_passes 3 none 1 10 := ⟨⟨⟨gj_in (List.mem_of_getElem? (i := 1133) rfl) (by decide +kernel), gj_in (List.mem_of_getElem? (i := 66) (by decide +kernel)) (by decide +kernel), by decide +kernel, by decide +kernel, by decide⟩, gj_in (List.mem_of_getElem? (i := 1132) (by decide +kernel)) (by decide +kernel), gj_in (List.mem_of_getElem? (i := 41) (by decide +kernel)) (by decide +kernel)⟩, TX10, 26, rfl⟩
theorem wm_X10_196 : Cond.methodLink RX10 196 yX10_allDebt ∈ gj_tb := gj_in (List.mem_of_getElem? (i := 1142) (by decide +kernel)) (by decide +kernel)
set_option maxRecDepth 100000 in
theorem uX10_allDebt : gj_YC yX10_allDebt cX10_allDebt 3 (some .int) 0 10 := ⟨⟨⟨gj_in (List.mem_of_getElem? (i := 1145) rfl) (by decide +kernel), gj_in (List.mem_of_getElem? (i := 66) (by decide +kernel)) (by decide +kernel), by decide +kernel, by decide +kernel, by decide⟩, gj_in (List.mem_of_getElem? (i := 1144) (by decide +kernel)) (by decide +kernel), gj_in (List.mem_of_getElem? (i := 44) (by decide +kernel)) (by decide +kernel)⟩, TX10, 26, rfl⟩
theorem wk_X10_199 : Cond.constant RX10 199 (1103515245) ∈ gj_tb := gj_in (List.mem_of_getElem? (i := 1154) (by decide +kernel)) (by decide +kernel)
theorem wm_X10_200 : Cond.methodLink RX10 200 yX10_drawn ∈ gj_tb := gj_in (List.mem_of_getElem? (i := 1150) (by decide +kernel)) (by decide +kernel)
set_option maxRecDepth 100000 in
theorem uX10_drawn : gj_YC yX10_drawn cX10_drawn 2 (some .int) 1 10 := ⟨⟨⟨gj_in (List.mem_of_getElem? (i := 1153) rfl) (by decide +kernel), gj_in (List.mem_of_getElem? (i := 66) (by decide +kernel)) (by decide +kernel), by decide +kernel, by decide +kernel, by decide⟩, gj_in (List.mem_of_getElem? (i := 1152) (by decide +kernel)) (by decide +kernel), gj_in (List.mem_of_getElem? (i := 45) (by decide +kernel)) (by decide +kernel)⟩, TX10, 26, rfl⟩
theorem wf_X10_16 : gj_F RX10 16 10 2 RX10 TX10 26 := ⟨rfl, by decide, iX10, gj_in (List.mem_of_getElem? (i := 853) (by decide +kernel)) (by decide +kernel), rfl⟩
theorem wm_X10_203 : Cond.methodLink RX10 203 yX10_setOf ∈ gj_tb := gj_in (List.mem_of_getElem? (i := 1163) (by decide +kernel)) (by decide +kernel)
set_option maxRecDepth 100000 in
theorem uX10_setOf : gj_YC yX10_setOf cX10_setOf 4 (some .int) 1 10 := ⟨⟨⟨gj_in (List.mem_of_getElem? (i := 1166) rfl) (by decide +kernel), gj_in (List.mem_of_getElem? (i := 66) (by decide +kernel)) (by decide +kernel), by decide +kernel, by decide +kernel, by decide⟩, gj_in (List.mem_of_getElem? (i := 1165) (by decide +kernel)) (by decide +kernel), gj_in (List.mem_of_getElem? (i := 46) (by decide +kernel)) (by decide +kernel)⟩, TX10, 26, rfl⟩
theorem wf_X10_37 : gj_F RX10 37 10 19 RX10 TX10 26 := ⟨rfl, by decide, iX10, gj_in (List.mem_of_getElem? (i := 870) (by decide +kernel)) (by decide +kernel), rfl⟩
theorem wm_X10_210 : Cond.methodLink RX10 210 yX10_isFarSo ∈ gj_tb := gj_in (List.mem_of_getElem? (i := 1178) (by decide +kernel)) (by decide +kernel)
set_option maxRecDepth 100000 in
theorem uX10_isFarSo : gj_YC yX10_isFarSo cX10_isFarSo 5 (some .boolean) 2 10 := ⟨⟨⟨gj_in (List.mem_of_getElem? (i := 1181) rfl) (by decide +kernel), gj_in (List.mem_of_getElem? (i := 66) (by decide +kernel)) (by decide +kernel), by decide +kernel, by decide +kernel, by decide⟩, gj_in (List.mem_of_getElem? (i := 1180) (by decide +kernel)) (by decide +kernel), gj_in (List.mem_of_getElem? (i := 47) (by decide +kernel)) (by decide +kernel)⟩, TX10, 26, rfl⟩
theorem wm_X10_207 : Cond.methodLink RX10 207 yX10_isSheet ∈ gj_tb := gj_in (List.mem_of_getElem? (i := 1175) (by decide +kernel)) (by decide +kernel)
set_option maxRecDepth 100000 in
theorem uX10_isSheet : gj_YS yX10_isSheet cX10_isSheet 1 (some .boolean) 1 := ⟨⟨gj_in (List.mem_of_getElem? (i := 1177) rfl) (by decide +kernel), gj_in (List.mem_of_getElem? (i := 66) (by decide +kernel)) (by decide +kernel), by decide +kernel, by decide +kernel, by decide⟩, gj_in (List.mem_of_getElem? (i := 1176) (by decide +kernel)) (by decide +kernel)⟩
theorem wf_X10_31 : gj_F RX10 31 10 17 RX10 TX10 26 := ⟨rfl, by decide, iX10, gj_in (List.mem_of_getElem? (i := 868) (by decide +kernel)) (by decide +kernel), rfl⟩
theorem wf_X10_34 : gj_F RX10 34 10 18 RX10 TX10 26 := ⟨rfl, by decide, iX10, gj_in (List.mem_of_getElem? (i := 869) (by decide +kernel)) (by decide +kernel), rfl⟩
theorem wm_X10_213 : Cond.methodLink RX10 213 yX10_divisor ∈ gj_tb := gj_in (List.mem_of_getElem? (i := 1194) (by decide +kernel)) (by decide +kernel)
set_option maxRecDepth 100000 in
theorem uX10_divisor : gj_YS yX10_divisor cX10_divisor 5 (some .int) 2 := ⟨⟨gj_in (List.mem_of_getElem? (i := 1196) rfl) (by decide +kernel), gj_in (List.mem_of_getElem? (i := 66) (by decide +kernel)) (by decide +kernel), by decide +kernel, by decide +kernel, by decide⟩, gj_in (List.mem_of_getElem? (i := 1195) (by decide +kernel)) (by decide +kernel)⟩
theorem wf_X10_216 : gj_F RX10 216 10 22 RX10 TX10 26 := ⟨rfl, by decide, iX10, gj_in (List.mem_of_getElem? (i := 873) (by decide +kernel)) (by decide +kernel), rfl⟩
theorem wf_X10_43 : gj_F RX10 43 10 21 RX10 TX10 26 := ⟨rfl, by decide, iX10, gj_in (List.mem_of_getElem? (i := 872) (by decide +kernel)) (by decide +kernel), rfl⟩
theorem wp_X10_22 : gj_FP TX10 22 26 := ⟨⟨tyX10, tyX10_ok⟩, nmX10, rfl⟩
theorem wm_X10_219 : Cond.methodLink RX10 219 yX10_ran ∈ gj_tb := gj_in (List.mem_of_getElem? (i := 1209) (by decide +kernel)) (by decide +kernel)
set_option maxRecDepth 100000 in
theorem uX10_ran : gj_YC yX10_ran cX10_ran 2 none 1 10 := ⟨⟨⟨gj_in (List.mem_of_getElem? (i := 1212) rfl) (by decide +kernel), gj_in (List.mem_of_getElem? (i := 66) (by decide +kernel)) (by decide +kernel), by decide +kernel, by decide +kernel, by decide⟩, gj_in (List.mem_of_getElem? (i := 1211) (by decide +kernel)) (by decide +kernel), gj_in (List.mem_of_getElem? (i := 49) (by decide +kernel)) (by decide +kernel)⟩, TX10, 26, rfl⟩
theorem wf_X10_222 : gj_F RX10 222 10 24 RX10 TX10 26 := ⟨rfl, by decide, iX10, gj_in (List.mem_of_getElem? (i := 875) (by decide +kernel)) (by decide +kernel), rfl⟩
theorem wm_X10_225 : Cond.methodLink RX10 225 yX10_creasesIn ∈ gj_tb := gj_in (List.mem_of_getElem? (i := 1205) (by decide +kernel)) (by decide +kernel)
set_option maxRecDepth 100000 in
theorem uX10_creasesIn : gj_YC yX10_creasesIn cX10_creasesIn 3 (some .int) 2 10 := ⟨⟨⟨gj_in (List.mem_of_getElem? (i := 1208) rfl) (by decide +kernel), gj_in (List.mem_of_getElem? (i := 66) (by decide +kernel)) (by decide +kernel), by decide +kernel, by decide +kernel, by decide⟩, gj_in (List.mem_of_getElem? (i := 1207) (by decide +kernel)) (by decide +kernel), gj_in (List.mem_of_getElem? (i := 48) (by decide +kernel)) (by decide +kernel)⟩, TX10, 26, rfl⟩
theorem wf_X10_228 : gj_F RX10 228 10 25 RX10 TX10 26 := ⟨rfl, by decide, iX10, gj_in (List.mem_of_getElem? (i := 876) (by decide +kernel)) (by decide +kernel), rfl⟩
theorem wm_X10_231 : Cond.methodLink RX10 231 yX10_restsIn ∈ gj_tb := gj_in (List.mem_of_getElem? (i := 1217) (by decide +kernel)) (by decide +kernel)
set_option maxRecDepth 100000 in
theorem uX10_restsIn : gj_YC yX10_restsIn cX10_restsIn 3 (some .int) 2 10 := ⟨⟨⟨gj_in (List.mem_of_getElem? (i := 1220) rfl) (by decide +kernel), gj_in (List.mem_of_getElem? (i := 66) (by decide +kernel)) (by decide +kernel), by decide +kernel, by decide +kernel, by decide⟩, gj_in (List.mem_of_getElem? (i := 1219) (by decide +kernel)) (by decide +kernel), gj_in (List.mem_of_getElem? (i := 51) (by decide +kernel)) (by decide +kernel)⟩, TX10, 26, rfl⟩
theorem wf_X10_234 : gj_F RX10 234 10 23 RX10 TX10 26 := ⟨rfl, by decide, iX10, gj_in (List.mem_of_getElem? (i := 874) (by decide +kernel)) (by decide +kernel), rfl⟩
theorem wm_X10_237 : Cond.methodLink RX10 237 yX10_fliesIn ∈ gj_tb := gj_in (List.mem_of_getElem? (i := 1213) (by decide +kernel)) (by decide +kernel)
set_option maxRecDepth 100000 in
theorem uX10_fliesIn : gj_YC yX10_fliesIn cX10_fliesIn 4 (some .int) 2 10 := ⟨⟨⟨gj_in (List.mem_of_getElem? (i := 1216) rfl) (by decide +kernel), gj_in (List.mem_of_getElem? (i := 66) (by decide +kernel)) (by decide +kernel), by decide +kernel, by decide +kernel, by decide⟩, gj_in (List.mem_of_getElem? (i := 1215) (by decide +kernel)) (by decide +kernel), gj_in (List.mem_of_getElem? (i := 50) (by decide +kernel)) (by decide +kernel)⟩, TX10, 26, rfl⟩
theorem wm_X10_240 : Cond.methodLink RX10 240 yX10_tellsIn ∈ gj_tb := gj_in (List.mem_of_getElem? (i := 1221) (by decide +kernel)) (by decide +kernel)
set_option maxRecDepth 100000 in
theorem uX10_tellsIn : gj_YC yX10_tellsIn cX10_tellsIn 4 (some .int) 2 10 := ⟨⟨⟨gj_in (List.mem_of_getElem? (i := 1224) rfl) (by decide +kernel), gj_in (List.mem_of_getElem? (i := 66) (by decide +kernel)) (by decide +kernel), by decide +kernel, by decide +kernel, by decide⟩, gj_in (List.mem_of_getElem? (i := 1223) (by decide +kernel)) (by decide +kernel), gj_in (List.mem_of_getElem? (i := 52) (by decide +kernel)) (by decide +kernel)⟩, TX10, 26, rfl⟩
theorem wp_X10_23 : gj_FP TX10 23 26 := ⟨⟨tyX10, tyX10_ok⟩, nmX10, rfl⟩
theorem wp_X10_24 : gj_FP TX10 24 26 := ⟨⟨tyX10, tyX10_ok⟩, nmX10, rfl⟩
theorem wp_X10_25 : gj_FP TX10 25 26 := ⟨⟨tyX10, tyX10_ok⟩, nmX10, rfl⟩
theorem wm_X10_243 : Cond.methodLink RX10 243 yX10_narrow ∈ gj_tb := gj_in (List.mem_of_getElem? (i := 1237) (by decide +kernel)) (by decide +kernel)
set_option maxRecDepth 100000 in
theorem uX10_narrow : gj_YS yX10_narrow cX10_narrow 2 (some .int) 2 := ⟨⟨gj_in (List.mem_of_getElem? (i := 1239) rfl) (by decide +kernel), gj_in (List.mem_of_getElem? (i := 66) (by decide +kernel)) (by decide +kernel), by decide +kernel, by decide +kernel, by decide⟩, gj_in (List.mem_of_getElem? (i := 1238) (by decide +kernel)) (by decide +kernel)⟩
theorem wf_X10_40 : gj_F RX10 40 10 20 RX10 TX10 26 := ⟨rfl, by decide, iX10, gj_in (List.mem_of_getElem? (i := 871) (by decide +kernel)) (by decide +kernel), rfl⟩
theorem wf_X10_13 : gj_F RX10 13 10 1 RX10 TX10 26 := ⟨rfl, by decide, iX10, gj_in (List.mem_of_getElem? (i := 852) (by decide +kernel)) (by decide +kernel), rfl⟩
theorem wf_X10_246 : gj_F RX10 246 10 4 RX10 TX10 26 := ⟨rfl, by decide, iX10, gj_in (List.mem_of_getElem? (i := 855) (by decide +kernel)) (by decide +kernel), rfl⟩
theorem wp_X10_4 : gj_FP TX10 4 26 := ⟨⟨tyX10, tyX10_ok⟩, nmX10, rfl⟩
theorem wf_X10_249 : gj_F RX10 249 10 5 RX10 TX10 26 := ⟨rfl, by decide, iX10, gj_in (List.mem_of_getElem? (i := 856) (by decide +kernel)) (by decide +kernel), rfl⟩
theorem wp_X10_5 : gj_FP TX10 5 26 := ⟨⟨tyX10, tyX10_ok⟩, nmX10, rfl⟩
theorem wm_X6_43 : Cond.methodLink RX6 43 Lib.Math.min.name ∈ gj_tb := gj_in (List.mem_of_getElem? (i := 114) (by decide +kernel)) (by decide +kernel)
theorem wm_X6_37 : Cond.methodLink RX6 37 Lib.Math.max.name ∈ gj_tb := gj_in (List.mem_of_getElem? (i := 111) (by decide +kernel)) (by decide +kernel)
theorem wf_X6_18 : gj_F RX6 18 6 2 RX6 TX6 5 := ⟨rfl, by decide, iX6, gj_in (List.mem_of_getElem? (i := 123) (by decide +kernel)) (by decide +kernel), rfl⟩
