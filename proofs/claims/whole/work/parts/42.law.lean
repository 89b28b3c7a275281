theorem wm_L_13 : Cond.methodLink RL 13 yX9_paper ∈ gj_tb := gj_in (List.mem_of_getElem? (i := 387) (by decide +kernel)) (by decide +kernel)
set_option maxRecDepth 100000 in
theorem uX9_paper : gj_YC yX9_paper cX9_paper 3 (some .int) 2 9 := ⟨⟨⟨gj_in (List.mem_of_getElem? (i := 390) rfl) (by decide +kernel), gj_in (List.mem_of_getElem? (i := 54) (by decide +kernel)) (by decide +kernel), by decide +kernel, by decide +kernel, by decide⟩, gj_in (List.mem_of_getElem? (i := 388) (by decide +kernel)) (by decide +kernel), gj_in (List.mem_of_getElem? (i := 389) (by decide +kernel)) (by decide +kernel)⟩, TX9, 9, rfl⟩
theorem wm_L_17 : Cond.methodLink RL 17 yX10_paper ∈ gj_tb := gj_in (List.mem_of_getElem? (i := 930) (by decide +kernel)) (by decide +kernel)
set_option maxRecDepth 100000 in
theorem uX10_paper : gj_YC yX10_paper cX10_paper 4 (some .int) 2 10 := ⟨⟨⟨gj_in (List.mem_of_getElem? (i := 933) rfl) (by decide +kernel), gj_in (List.mem_of_getElem? (i := 66) (by decide +kernel)) (by decide +kernel), by decide +kernel, by decide +kernel, by decide⟩, gj_in (List.mem_of_getElem? (i := 931) (by decide +kernel)) (by decide +kernel), gj_in (List.mem_of_getElem? (i := 932) (by decide +kernel)) (by decide +kernel)⟩, TX10, 26, rfl⟩
theorem wm_L_18 : Cond.methodLink RL 18 yX9_ofPaper ∈ gj_tb := gj_in (List.mem_of_getElem? (i := 404) (by decide +kernel)) (by decide +kernel)
set_option maxRecDepth 100000 in
theorem uX9_ofPaper : gj_YC yX9_ofPaper cX9_ofPaper 4 (some .int) 2 9 := ⟨⟨⟨gj_in (List.mem_of_getElem? (i := 407) rfl) (by decide +kernel), gj_in (List.mem_of_getElem? (i := 54) (by decide +kernel)) (by decide +kernel), by decide +kernel, by decide +kernel, by decide⟩, gj_in (List.mem_of_getElem? (i := 405) (by decide +kernel)) (by decide +kernel), gj_in (List.mem_of_getElem? (i := 406) (by decide +kernel)) (by decide +kernel)⟩, TX9, 9, rfl⟩
theorem wm_L_21 : Cond.methodLink RL 21 yX10_ofPaper ∈ gj_tb := gj_in (List.mem_of_getElem? (i := 948) (by decide +kernel)) (by decide +kernel)
set_option maxRecDepth 100000 in
theorem uX10_ofPaper : gj_YC yX10_ofPaper cX10_ofPaper 3 (some .int) 2 10 := ⟨⟨⟨gj_in (List.mem_of_getElem? (i := 951) rfl) (by decide +kernel), gj_in (List.mem_of_getElem? (i := 66) (by decide +kernel)) (by decide +kernel), by decide +kernel, by decide +kernel, by decide⟩, gj_in (List.mem_of_getElem? (i := 949) (by decide +kernel)) (by decide +kernel), gj_in (List.mem_of_getElem? (i := 950) (by decide +kernel)) (by decide +kernel)⟩, TX10, 26, rfl⟩
theorem wm_L_22 : Cond.methodLink RL 22 yX9_change ∈ gj_tb := gj_in (List.mem_of_getElem? (i := 424) (by decide +kernel)) (by decide +kernel)
set_option maxRecDepth 100000 in
theorem uX9_change : gj_YC yX9_change cX9_change 6 (some .int) 3 9 := ⟨⟨⟨gj_in (List.mem_of_getElem? (i := 427) rfl) (by decide +kernel), gj_in (List.mem_of_getElem? (i := 54) (by decide +kernel)) (by decide +kernel), by decide +kernel, by decide +kernel, by decide⟩, gj_in (List.mem_of_getElem? (i := 425) (by decide +kernel)) (by decide +kernel), gj_in (List.mem_of_getElem? (i := 426) (by decide +kernel)) (by decide +kernel)⟩, TX9, 9, rfl⟩
theorem wm_L_26 : Cond.methodLink RL 26 yX10_change ∈ gj_tb := gj_in (List.mem_of_getElem? (i := 984) (by decide +kernel)) (by decide +kernel)
set_option maxRecDepth 100000 in
theorem uX10_change : gj_YC yX10_change cX10_change 5 (some .int) 3 10 := ⟨⟨⟨gj_in (List.mem_of_getElem? (i := 987) rfl) (by decide +kernel), gj_in (List.mem_of_getElem? (i := 66) (by decide +kernel)) (by decide +kernel), by decide +kernel, by decide +kernel, by decide⟩, gj_in (List.mem_of_getElem? (i := 985) (by decide +kernel)) (by decide +kernel), gj_in (List.mem_of_getElem? (i := 986) (by decide +kernel)) (by decide +kernel)⟩, TX10, 26, rfl⟩
theorem wm_L_27 : Cond.methodLink RL 27 yX9_fold ∈ gj_tb := gj_in (List.mem_of_getElem? (i := 431) (by decide +kernel)) (by decide +kernel)
set_option maxRecDepth 100000 in
theorem uX9_fold : gj_YC yX9_fold cX9_fold 5 (some .int) 2 9 := ⟨⟨⟨gj_in (List.mem_of_getElem? (i := 434) rfl) (by decide +kernel), gj_in (List.mem_of_getElem? (i := 54) (by decide +kernel)) (by decide +kernel), by decide +kernel, by decide +kernel, by decide⟩, gj_in (List.mem_of_getElem? (i := 432) (by decide +kernel)) (by decide +kernel), gj_in (List.mem_of_getElem? (i := 433) (by decide +kernel)) (by decide +kernel)⟩, TX9, 9, rfl⟩
theorem wm_L_30 : Cond.methodLink RL 30 yX10_fold ∈ gj_tb := gj_in (List.mem_of_getElem? (i := 1101) (by decide +kernel)) (by decide +kernel)
set_option maxRecDepth 100000 in
theorem uX10_fold : gj_YC yX10_fold cX10_fold 4 (some .int) 2 10 := ⟨⟨⟨gj_in (List.mem_of_getElem? (i := 1104) rfl) (by decide +kernel), gj_in (List.mem_of_getElem? (i := 66) (by decide +kernel)) (by decide +kernel), by decide +kernel, by decide +kernel, by decide⟩, gj_in (List.mem_of_getElem? (i := 1102) (by decide +kernel)) (by decide +kernel), gj_in (List.mem_of_getElem? (i := 1103) (by decide +kernel)) (by decide +kernel)⟩, TX10, 26, rfl⟩
theorem wm_L_31 : Cond.methodLink RL 31 yX9_release ∈ gj_tb := gj_in (List.mem_of_getElem? (i := 435) (by decide +kernel)) (by decide +kernel)
set_option maxRecDepth 100000 in
theorem uX9_release : gj_YC yX9_release cX9_release 3 (some .int) 1 9 := ⟨⟨⟨gj_in (List.mem_of_getElem? (i := 438) rfl) (by decide +kernel), gj_in (List.mem_of_getElem? (i := 54) (by decide +kernel)) (by decide +kernel), by decide +kernel, by decide +kernel, by decide⟩, gj_in (List.mem_of_getElem? (i := 436) (by decide +kernel)) (by decide +kernel), gj_in (List.mem_of_getElem? (i := 437) (by decide +kernel)) (by decide +kernel)⟩, TX9, 9, rfl⟩
theorem wm_L_35 : Cond.methodLink RL 35 yX10_release ∈ gj_tb := gj_in (List.mem_of_getElem? (i := 1106) (by decide +kernel)) (by decide +kernel)
set_option maxRecDepth 100000 in
theorem uX10_release : gj_YC yX10_release cX10_release 2 (some .int) 1 10 := ⟨⟨⟨gj_in (List.mem_of_getElem? (i := 1109) rfl) (by decide +kernel), gj_in (List.mem_of_getElem? (i := 66) (by decide +kernel)) (by decide +kernel), by decide +kernel, by decide +kernel, by decide⟩, gj_in (List.mem_of_getElem? (i := 1107) (by decide +kernel)) (by decide +kernel), gj_in (List.mem_of_getElem? (i := 1108) (by decide +kernel)) (by decide +kernel)⟩, TX10, 26, rfl⟩
theorem wm_L_36 : Cond.methodLink RL 36 yX9_wind ∈ gj_tb := gj_in (List.mem_of_getElem? (i := 439) (by decide +kernel)) (by decide +kernel)
set_option maxRecDepth 100000 in
theorem uX9_wind : gj_YC yX9_wind cX9_wind 3 (some .int) 1 9 := ⟨⟨⟨gj_in (List.mem_of_getElem? (i := 442) rfl) (by decide +kernel), gj_in (List.mem_of_getElem? (i := 54) (by decide +kernel)) (by decide +kernel), by decide +kernel, by decide +kernel, by decide⟩, gj_in (List.mem_of_getElem? (i := 440) (by decide +kernel)) (by decide +kernel), gj_in (List.mem_of_getElem? (i := 441) (by decide +kernel)) (by decide +kernel)⟩, TX9, 9, rfl⟩
theorem wm_L_39 : Cond.methodLink RL 39 yX10_wind ∈ gj_tb := gj_in (List.mem_of_getElem? (i := 992) (by decide +kernel)) (by decide +kernel)
set_option maxRecDepth 100000 in
theorem uX10_wind : gj_YC yX10_wind cX10_wind 2 (some .int) 1 10 := ⟨⟨⟨gj_in (List.mem_of_getElem? (i := 995) rfl) (by decide +kernel), gj_in (List.mem_of_getElem? (i := 66) (by decide +kernel)) (by decide +kernel), by decide +kernel, by decide +kernel, by decide⟩, gj_in (List.mem_of_getElem? (i := 993) (by decide +kernel)) (by decide +kernel), gj_in (List.mem_of_getElem? (i := 994) (by decide +kernel)) (by decide +kernel)⟩, TX10, 26, rfl⟩
theorem wm_L_40 : Cond.methodLink RL 40 yX9_become ∈ gj_tb := gj_in (List.mem_of_getElem? (i := 443) (by decide +kernel)) (by decide +kernel)
set_option maxRecDepth 100000 in
theorem uX9_become : gj_YC yX9_become cX9_become 5 (some .int) 2 9 := ⟨⟨⟨gj_in (List.mem_of_getElem? (i := 446) rfl) (by decide +kernel), gj_in (List.mem_of_getElem? (i := 54) (by decide +kernel)) (by decide +kernel), by decide +kernel, by decide +kernel, by decide⟩, gj_in (List.mem_of_getElem? (i := 444) (by decide +kernel)) (by decide +kernel), gj_in (List.mem_of_getElem? (i := 445) (by decide +kernel)) (by decide +kernel)⟩, TX9, 9, rfl⟩
theorem wm_L_43 : Cond.methodLink RL 43 yX10_become ∈ gj_tb := gj_in (List.mem_of_getElem? (i := 996) (by decide +kernel)) (by decide +kernel)
set_option maxRecDepth 100000 in
theorem uX10_become : gj_YC yX10_become cX10_become 3 (some .int) 2 10 := ⟨⟨⟨gj_in (List.mem_of_getElem? (i := 999) rfl) (by decide +kernel), gj_in (List.mem_of_getElem? (i := 66) (by decide +kernel)) (by decide +kernel), by decide +kernel, by decide +kernel, by decide⟩, gj_in (List.mem_of_getElem? (i := 997) (by decide +kernel)) (by decide +kernel), gj_in (List.mem_of_getElem? (i := 998) (by decide +kernel)) (by decide +kernel)⟩, TX10, 26, rfl⟩
theorem wm_L_44 : Cond.methodLink RL 44 yX9_as ∈ gj_tb := gj_in (List.mem_of_getElem? (i := 447) (by decide +kernel)) (by decide +kernel)
set_option maxRecDepth 100000 in
theorem uX9_as : gj_YC yX9_as cX9_as 4 (some .int) 2 9 := ⟨⟨⟨gj_in (List.mem_of_getElem? (i := 450) rfl) (by decide +kernel), gj_in (List.mem_of_getElem? (i := 54) (by decide +kernel)) (by decide +kernel), by decide +kernel, by decide +kernel, by decide⟩, gj_in (List.mem_of_getElem? (i := 448) (by decide +kernel)) (by decide +kernel), gj_in (List.mem_of_getElem? (i := 449) (by decide +kernel)) (by decide +kernel)⟩, TX9, 9, rfl⟩
theorem wm_L_47 : Cond.methodLink RL 47 yX10_as ∈ gj_tb := gj_in (List.mem_of_getElem? (i := 1000) (by decide +kernel)) (by decide +kernel)
set_option maxRecDepth 100000 in
theorem uX10_as : gj_YC yX10_as cX10_as 4 (some .int) 2 10 := ⟨⟨⟨gj_in (List.mem_of_getElem? (i := 1003) rfl) (by decide +kernel), gj_in (List.mem_of_getElem? (i := 66) (by decide +kernel)) (by decide +kernel), by decide +kernel, by decide +kernel, by decide⟩, gj_in (List.mem_of_getElem? (i := 1001) (by decide +kernel)) (by decide +kernel), gj_in (List.mem_of_getElem? (i := 1002) (by decide +kernel)) (by decide +kernel)⟩, TX10, 26, rfl⟩
theorem wk_L_48 : Cond.constantLong RL 48 (4294967295) ∈ gj_tb := gj_in (List.mem_of_getElem? (i := 1276) (by decide +kernel)) (by decide +kernel)
theorem wm_L_50 : Cond.methodLink RL 50 yX9_feed ∈ gj_tb := gj_in (List.mem_of_getElem? (i := 456) (by decide +kernel)) (by decide +kernel)
set_option maxRecDepth 100000 in
theorem uX9_feed : gj_YC yX9_feed cX9_feed 5 (some .int) 2 9 := ⟨⟨⟨gj_in (List.mem_of_getElem? (i := 459) rfl) (by decide +kernel), gj_in (List.mem_of_getElem? (i := 54) (by decide +kernel)) (by decide +kernel), by decide +kernel, by decide +kernel, by decide⟩, gj_in (List.mem_of_getElem? (i := 457) (by decide +kernel)) (by decide +kernel), gj_in (List.mem_of_getElem? (i := 458) (by decide +kernel)) (by decide +kernel)⟩, TX9, 9, rfl⟩
theorem wm_L_54 : Cond.methodLink RL 54 yX10_feed ∈ gj_tb := gj_in (List.mem_of_getElem? (i := 1066) (by decide +kernel)) (by decide +kernel)
set_option maxRecDepth 100000 in
theorem uX10_feed : gj_YC yX10_feed cX10_feed 5 (some .int) 2 10 := ⟨⟨⟨gj_in (List.mem_of_getElem? (i := 1069) rfl) (by decide +kernel), gj_in (List.mem_of_getElem? (i := 66) (by decide +kernel)) (by decide +kernel), by decide +kernel, by decide +kernel, by decide⟩, gj_in (List.mem_of_getElem? (i := 1067) (by decide +kernel)) (by decide +kernel), gj_in (List.mem_of_getElem? (i := 1068) (by decide +kernel)) (by decide +kernel)⟩, TX10, 26, rfl⟩
theorem wm_L_55 : Cond.methodLink RL 55 yX9_text ∈ gj_tb := gj_in (List.mem_of_getElem? (i := 461) (by decide +kernel)) (by decide +kernel)
set_option maxRecDepth 100000 in
theorem uX9_text : gj_YC yX9_text cX9_text 3 (some .int) 1 9 := ⟨⟨⟨gj_in (List.mem_of_getElem? (i := 464) rfl) (by decide +kernel), gj_in (List.mem_of_getElem? (i := 54) (by decide +kernel)) (by decide +kernel), by decide +kernel, by decide +kernel, by decide⟩, gj_in (List.mem_of_getElem? (i := 462) (by decide +kernel)) (by decide +kernel), gj_in (List.mem_of_getElem? (i := 463) (by decide +kernel)) (by decide +kernel)⟩, TX9, 9, rfl⟩
theorem wm_L_58 : Cond.methodLink RL 58 yX10_text ∈ gj_tb := gj_in (List.mem_of_getElem? (i := 1071) (by decide +kernel)) (by decide +kernel)
set_option maxRecDepth 100000 in
theorem uX10_text : gj_YC yX10_text cX10_text 5 (some .int) 1 10 := ⟨⟨⟨gj_in (List.mem_of_getElem? (i := 1074) rfl) (by decide +kernel), gj_in (List.mem_of_getElem? (i := 66) (by decide +kernel)) (by decide +kernel), by decide +kernel, by decide +kernel, by decide⟩, gj_in (List.mem_of_getElem? (i := 1072) (by decide +kernel)) (by decide +kernel), gj_in (List.mem_of_getElem? (i := 1073) (by decide +kernel)) (by decide +kernel)⟩, TX10, 26, rfl⟩
theorem wm_L_59 : Cond.methodLink RL 59 yX9_law ∈ gj_tb := gj_in (List.mem_of_getElem? (i := 515) (by decide +kernel)) (by decide +kernel)
set_option maxRecDepth 100000 in
theorem uX9_law : gj_YC yX9_law cX9_law 5 (some .int) 4 9 := ⟨⟨⟨gj_in (List.mem_of_getElem? (i := 518) rfl) (by decide +kernel), gj_in (List.mem_of_getElem? (i := 54) (by decide +kernel)) (by decide +kernel), by decide +kernel, by decide +kernel, by decide⟩, gj_in (List.mem_of_getElem? (i := 516) (by decide +kernel)) (by decide +kernel), gj_in (List.mem_of_getElem? (i := 517) (by decide +kernel)) (by decide +kernel)⟩, TX9, 9, rfl⟩
theorem wm_L_63 : Cond.methodLink RL 63 yX10_law ∈ gj_tb := gj_in (List.mem_of_getElem? (i := 1008) (by decide +kernel)) (by decide +kernel)
set_option maxRecDepth 100000 in
theorem uX10_law : gj_YC yX10_law cX10_law 5 (some .int) 4 10 := ⟨⟨⟨gj_in (List.mem_of_getElem? (i := 1011) rfl) (by decide +kernel), gj_in (List.mem_of_getElem? (i := 66) (by decide +kernel)) (by decide +kernel), by decide +kernel, by decide +kernel, by decide⟩, gj_in (List.mem_of_getElem? (i := 1009) (by decide +kernel)) (by decide +kernel), gj_in (List.mem_of_getElem? (i := 1010) (by decide +kernel)) (by decide +kernel)⟩, TX10, 26, rfl⟩
theorem wm_L_64 : Cond.methodLink RL 64 yX9_days ∈ gj_tb := gj_in (List.mem_of_getElem? (i := 539) (by decide +kernel)) (by decide +kernel)
set_option maxRecDepth 100000 in
theorem uX9_days : gj_YC yX9_days cX9_days 2 (some .int) 1 9 := ⟨⟨⟨gj_in (List.mem_of_getElem? (i := 542) rfl) (by decide +kernel), gj_in (List.mem_of_getElem? (i := 54) (by decide +kernel)) (by decide +kernel), by decide +kernel, by decide +kernel, by decide⟩, gj_in (List.mem_of_getElem? (i := 540) (by decide +kernel)) (by decide +kernel), gj_in (List.mem_of_getElem? (i := 541) (by decide +kernel)) (by decide +kernel)⟩, TX9, 9, rfl⟩
theorem wm_L_67 : Cond.methodLink RL 67 yX10_days ∈ gj_tb := gj_in (List.mem_of_getElem? (i := 1126) (by decide +kernel)) (by decide +kernel)
set_option maxRecDepth 100000 in
theorem uX10_days : gj_YC yX10_days cX10_days 2 (some .int) 1 10 := ⟨⟨⟨gj_in (List.mem_of_getElem? (i := 1129) rfl) (by decide +kernel), gj_in (List.mem_of_getElem? (i := 66) (by decide +kernel)) (by decide +kernel), by decide +kernel, by decide +kernel, by decide⟩, gj_in (List.mem_of_getElem? (i := 1127) (by decide +kernel)) (by decide +kernel), gj_in (List.mem_of_getElem? (i := 1128) (by decide +kernel)) (by decide +kernel)⟩, TX10, 26, rfl⟩
theorem wm_L_68 : Cond.methodLink RL 68 yX9_loose ∈ gj_tb := gj_in (List.mem_of_getElem? (i := 583) (by decide +kernel)) (by decide +kernel)
set_option maxRecDepth 100000 in
theorem uX9_loose : gj_YC yX9_loose cX9_loose 3 (some .int) 1 9 := ⟨⟨⟨gj_in (List.mem_of_getElem? (i := 586) rfl) (by decide +kernel), gj_in (List.mem_of_getElem? (i := 54) (by decide +kernel)) (by decide +kernel), by decide +kernel, by decide +kernel, by decide⟩, gj_in (List.mem_of_getElem? (i := 584) (by decide +kernel)) (by decide +kernel), gj_in (List.mem_of_getElem? (i := 585) (by decide +kernel)) (by decide +kernel)⟩, TX9, 9, rfl⟩
theorem wm_L_71 : Cond.methodLink RL 71 yX10_loose ∈ gj_tb := gj_in (List.mem_of_getElem? (i := 1146) (by decide +kernel)) (by decide +kernel)
set_option maxRecDepth 100000 in
theorem uX10_loose : gj_YC yX10_loose cX10_loose 3 (some .int) 1 10 := ⟨⟨⟨gj_in (List.mem_of_getElem? (i := 1149) rfl) (by decide +kernel), gj_in (List.mem_of_getElem? (i := 66) (by decide +kernel)) (by decide +kernel), by decide +kernel, by decide +kernel, by decide⟩, gj_in (List.mem_of_getElem? (i := 1147) (by decide +kernel)) (by decide +kernel), gj_in (List.mem_of_getElem? (i := 1148) (by decide +kernel)) (by decide +kernel)⟩, TX10, 26, rfl⟩
theorem wm_L_72 : Cond.methodLink RL 72 yX9_shape ∈ gj_tb := gj_in (List.mem_of_getElem? (i := 592) (by decide +kernel)) (by decide +kernel)
set_option maxRecDepth 100000 in
theorem uX9_shape : gj_YC yX9_shape cX9_shape 3 (some .int) 2 9 := ⟨⟨⟨gj_in (List.mem_of_getElem? (i := 595) rfl) (by decide +kernel), gj_in (List.mem_of_getElem? (i := 54) (by decide +kernel)) (by decide +kernel), by decide +kernel, by decide +kernel, by decide⟩, gj_in (List.mem_of_getElem? (i := 593) (by decide +kernel)) (by decide +kernel), gj_in (List.mem_of_getElem? (i := 594) (by decide +kernel)) (by decide +kernel)⟩, TX9, 9, rfl⟩
theorem wm_L_75 : Cond.methodLink RL 75 yX10_shape ∈ gj_tb := gj_in (List.mem_of_getElem? (i := 1079) (by decide +kernel)) (by decide +kernel)
set_option maxRecDepth 100000 in
theorem uX10_shape : gj_YC yX10_shape cX10_shape 3 (some .int) 2 10 := ⟨⟨⟨gj_in (List.mem_of_getElem? (i := 1082) rfl) (by decide +kernel), gj_in (List.mem_of_getElem? (i := 66) (by decide +kernel)) (by decide +kernel), by decide +kernel, by decide +kernel, by decide⟩, gj_in (List.mem_of_getElem? (i := 1080) (by decide +kernel)) (by decide +kernel), gj_in (List.mem_of_getElem? (i := 1081) (by decide +kernel)) (by decide +kernel)⟩, TX10, 26, rfl⟩
theorem wm_L_76 : Cond.methodLink RL 76 yX9_least ∈ gj_tb := gj_in (List.mem_of_getElem? (i := 596) (by decide +kernel)) (by decide +kernel)
set_option maxRecDepth 100000 in
theorem uX9_least : gj_YC yX9_least cX9_least 3 (some .int) 2 9 := ⟨⟨⟨gj_in (List.mem_of_getElem? (i := 599) rfl) (by decide +kernel), gj_in (List.mem_of_getElem? (i := 54) (by decide +kernel)) (by decide +kernel), by decide +kernel, by decide +kernel, by decide⟩, gj_in (List.mem_of_getElem? (i := 597) (by decide +kernel)) (by decide +kernel), gj_in (List.mem_of_getElem? (i := 598) (by decide +kernel)) (by decide +kernel)⟩, TX9, 9, rfl⟩
theorem wm_L_79 : Cond.methodLink RL 79 yX10_least ∈ gj_tb := gj_in (List.mem_of_getElem? (i := 1086) (by decide +kernel)) (by decide +kernel)
set_option maxRecDepth 100000 in
theorem uX10_least : gj_YC yX10_least cX10_least 5 (some .int) 2 10 := ⟨⟨⟨gj_in (List.mem_of_getElem? (i := 1089) rfl) (by decide +kernel), gj_in (List.mem_of_getElem? (i := 66) (by decide +kernel)) (by decide +kernel), by decide +kernel, by decide +kernel, by decide⟩, gj_in (List.mem_of_getElem? (i := 1087) (by decide +kernel)) (by decide +kernel), gj_in (List.mem_of_getElem? (i := 1088) (by decide +kernel)) (by decide +kernel)⟩, TX10, 26, rfl⟩
theorem wm_L_80 : Cond.methodLink RL 80 yX9_shapes ∈ gj_tb := gj_in (List.mem_of_getElem? (i := 618) (by decide +kernel)) (by decide +kernel)
set_option maxRecDepth 100000 in
theorem uX9_shapes : gj_YC yX9_shapes cX9_shapes 4 (some .int) 3 9 := ⟨⟨⟨gj_in (List.mem_of_getElem? (i := 621) rfl) (by decide +kernel), gj_in (List.mem_of_getElem? (i := 54) (by decide +kernel)) (by decide +kernel), by decide +kernel, by decide +kernel, by decide⟩, gj_in (List.mem_of_getElem? (i := 619) (by decide +kernel)) (by decide +kernel), gj_in (List.mem_of_getElem? (i := 620) (by decide +kernel)) (by decide +kernel)⟩, TX9, 9, rfl⟩
theorem wm_L_83 : Cond.methodLink RL 83 yX10_shapes ∈ gj_tb := gj_in (List.mem_of_getElem? (i := 1097) (by decide +kernel)) (by decide +kernel)
set_option maxRecDepth 100000 in
theorem uX10_shapes : gj_YC yX10_shapes cX10_shapes 8 (some .int) 3 10 := ⟨⟨⟨gj_in (List.mem_of_getElem? (i := 1100) rfl) (by decide +kernel), gj_in (List.mem_of_getElem? (i := 66) (by decide +kernel)) (by decide +kernel), by decide +kernel, by decide +kernel, by decide⟩, gj_in (List.mem_of_getElem? (i := 1098) (by decide +kernel)) (by decide +kernel), gj_in (List.mem_of_getElem? (i := 1099) (by decide +kernel)) (by decide +kernel)⟩, TX10, 26, rfl⟩
theorem wm_L_84 : Cond.methodLink RL 84 yX9_way ∈ gj_tb := gj_in (List.mem_of_getElem? (i := 630) (by decide +kernel)) (by decide +kernel)
set_option maxRecDepth 100000 in
theorem uX9_way : gj_YC yX9_way cX9_way 4 (some .int) 2 9 := ⟨⟨⟨gj_in (List.mem_of_getElem? (i := 633) rfl) (by decide +kernel), gj_in (List.mem_of_getElem? (i := 54) (by decide +kernel)) (by decide +kernel), by decide +kernel, by decide +kernel, by decide⟩, gj_in (List.mem_of_getElem? (i := 631) (by decide +kernel)) (by decide +kernel), gj_in (List.mem_of_getElem? (i := 632) (by decide +kernel)) (by decide +kernel)⟩, TX9, 9, rfl⟩
theorem wm_L_87 : Cond.methodLink RL 87 yX10_way ∈ gj_tb := gj_in (List.mem_of_getElem? (i := 1110) (by decide +kernel)) (by decide +kernel)
set_option maxRecDepth 100000 in
theorem uX10_way : gj_YC yX10_way cX10_way 7 (some .int) 2 10 := ⟨⟨⟨gj_in (List.mem_of_getElem? (i := 1113) rfl) (by decide +kernel), gj_in (List.mem_of_getElem? (i := 66) (by decide +kernel)) (by decide +kernel), by decide +kernel, by decide +kernel, by decide⟩, gj_in (List.mem_of_getElem? (i := 1111) (by decide +kernel)) (by decide +kernel), gj_in (List.mem_of_getElem? (i := 1112) (by decide +kernel)) (by decide +kernel)⟩, TX10, 26, rfl⟩
theorem wm_L_88 : Cond.methodLink RL 88 yX9_open ∈ gj_tb := gj_in (List.mem_of_getElem? (i := 638) (by decide +kernel)) (by decide +kernel)
set_option maxRecDepth 100000 in
theorem uX9_open : gj_YC yX9_open cX9_open 3 (some .int) 2 9 := ⟨⟨⟨gj_in (List.mem_of_getElem? (i := 641) rfl) (by decide +kernel), gj_in (List.mem_of_getElem? (i := 54) (by decide +kernel)) (by decide +kernel), by decide +kernel, by decide +kernel, by decide⟩, gj_in (List.mem_of_getElem? (i := 639) (by decide +kernel)) (by decide +kernel), gj_in (List.mem_of_getElem? (i := 640) (by decide +kernel)) (by decide +kernel)⟩, TX9, 9, rfl⟩
theorem wm_L_91 : Cond.methodLink RL 91 yX10_open ∈ gj_tb := gj_in (List.mem_of_getElem? (i := 1114) (by decide +kernel)) (by decide +kernel)
set_option maxRecDepth 100000 in
theorem uX10_open : gj_YC yX10_open cX10_open 6 (some .int) 2 10 := ⟨⟨⟨gj_in (List.mem_of_getElem? (i := 1117) rfl) (by decide +kernel), gj_in (List.mem_of_getElem? (i := 66) (by decide +kernel)) (by decide +kernel), by decide +kernel, by decide +kernel, by decide⟩, gj_in (List.mem_of_getElem? (i := 1115) (by decide +kernel)) (by decide +kernel), gj_in (List.mem_of_getElem? (i := 1116) (by decide +kernel)) (by decide +kernel)⟩, TX10, 26, rfl⟩
theorem wm_L_92 : Cond.methodLink RL 92 yX9_alike ∈ gj_tb := gj_in (List.mem_of_getElem? (i := 646) (by decide +kernel)) (by decide +kernel)
set_option maxRecDepth 100000 in
theorem uX9_alike : gj_YC yX9_alike cX9_alike 6 (some .int) 1 9 := ⟨⟨⟨gj_in (List.mem_of_getElem? (i := 649) rfl) (by decide +kernel), gj_in (List.mem_of_getElem? (i := 54) (by decide +kernel)) (by decide +kernel), by decide +kernel, by decide +kernel, by decide⟩, gj_in (List.mem_of_getElem? (i := 647) (by decide +kernel)) (by decide +kernel), gj_in (List.mem_of_getElem? (i := 648) (by decide +kernel)) (by decide +kernel)⟩, TX9, 9, rfl⟩
theorem wm_L_95 : Cond.methodLink RL 95 yX10_alike ∈ gj_tb := gj_in (List.mem_of_getElem? (i := 1118) (by decide +kernel)) (by decide +kernel)
set_option maxRecDepth 100000 in
theorem uX10_alike : gj_YC yX10_alike cX10_alike 6 (some .int) 1 10 := ⟨⟨⟨gj_in (List.mem_of_getElem? (i := 1121) rfl) (by decide +kernel), gj_in (List.mem_of_getElem? (i := 66) (by decide +kernel)) (by decide +kernel), by decide +kernel, by decide +kernel, by decide⟩, gj_in (List.mem_of_getElem? (i := 1119) (by decide +kernel)) (by decide +kernel), gj_in (List.mem_of_getElem? (i := 1120) (by decide +kernel)) (by decide +kernel)⟩, TX10, 26, rfl⟩
theorem wm_L_96 : Cond.methodLink RL 96 yX9_then ∈ gj_tb := gj_in (List.mem_of_getElem? (i := 654) (by decide +kernel)) (by decide +kernel)
set_option maxRecDepth 100000 in
theorem uX9_then : gj_YC yX9_then cX9_then 4 (some .int) 3 9 := ⟨⟨⟨gj_in (List.mem_of_getElem? (i := 657) rfl) (by decide +kernel), gj_in (List.mem_of_getElem? (i := 54) (by decide +kernel)) (by decide +kernel), by decide +kernel, by decide +kernel, by decide⟩, gj_in (List.mem_of_getElem? (i := 655) (by decide +kernel)) (by decide +kernel), gj_in (List.mem_of_getElem? (i := 656) (by decide +kernel)) (by decide +kernel)⟩, TX9, 9, rfl⟩
theorem wm_L_99 : Cond.methodLink RL 99 yX10_then ∈ gj_tb := gj_in (List.mem_of_getElem? (i := 1155) (by decide +kernel)) (by decide +kernel)
set_option maxRecDepth 100000 in
theorem uX10_then : gj_YC yX10_then cX10_then 5 (some .int) 3 10 := ⟨⟨⟨gj_in (List.mem_of_getElem? (i := 1158) rfl) (by decide +kernel), gj_in (List.mem_of_getElem? (i := 66) (by decide +kernel)) (by decide +kernel), by decide +kernel, by decide +kernel, by decide⟩, gj_in (List.mem_of_getElem? (i := 1156) (by decide +kernel)) (by decide +kernel), gj_in (List.mem_of_getElem? (i := 1157) (by decide +kernel)) (by decide +kernel)⟩, TX10, 26, rfl⟩
theorem wm_L_100 : Cond.methodLink RL 100 yX9_first ∈ gj_tb := gj_in (List.mem_of_getElem? (i := 668) (by decide +kernel)) (by decide +kernel)
set_option maxRecDepth 100000 in
theorem uX9_first : gj_YC yX9_first cX9_first 2 (some .int) 1 9 := ⟨⟨⟨gj_in (List.mem_of_getElem? (i := 671) rfl) (by decide +kernel), gj_in (List.mem_of_getElem? (i := 54) (by decide +kernel)) (by decide +kernel), by decide +kernel, by decide +kernel, by decide⟩, gj_in (List.mem_of_getElem? (i := 669) (by decide +kernel)) (by decide +kernel), gj_in (List.mem_of_getElem? (i := 670) (by decide +kernel)) (by decide +kernel)⟩, TX9, 9, rfl⟩
theorem wm_L_103 : Cond.methodLink RL 103 yX10_first ∈ gj_tb := gj_in (List.mem_of_getElem? (i := 1159) (by decide +kernel)) (by decide +kernel)
set_option maxRecDepth 100000 in
theorem uX10_first : gj_YC yX10_first cX10_first 6 (some .int) 1 10 := ⟨⟨⟨gj_in (List.mem_of_getElem? (i := 1162) rfl) (by decide +kernel), gj_in (List.mem_of_getElem? (i := 66) (by decide +kernel)) (by decide +kernel), by decide +kernel, by decide +kernel, by decide⟩, gj_in (List.mem_of_getElem? (i := 1160) (by decide +kernel)) (by decide +kernel), gj_in (List.mem_of_getElem? (i := 1161) (by decide +kernel)) (by decide +kernel)⟩, TX10, 26, rfl⟩
theorem wm_L_104 : Cond.methodLink RL 104 yX9_best ∈ gj_tb := gj_in (List.mem_of_getElem? (i := 680) (by decide +kernel)) (by decide +kernel)
set_option maxRecDepth 100000 in
theorem uX9_best : gj_YC yX9_best cX9_best 4 (some .int) 3 9 := ⟨⟨⟨gj_in (List.mem_of_getElem? (i := 683) rfl) (by decide +kernel), gj_in (List.mem_of_getElem? (i := 54) (by decide +kernel)) (by decide +kernel), by decide +kernel, by decide +kernel, by decide⟩, gj_in (List.mem_of_getElem? (i := 681) (by decide +kernel)) (by decide +kernel), gj_in (List.mem_of_getElem? (i := 682) (by decide +kernel)) (by decide +kernel)⟩, TX9, 9, rfl⟩
theorem wm_L_107 : Cond.methodLink RL 107 yX10_best ∈ gj_tb := gj_in (List.mem_of_getElem? (i := 1167) (by decide +kernel)) (by decide +kernel)
set_option maxRecDepth 100000 in
theorem uX10_best : gj_YC yX10_best cX10_best 8 (some .int) 3 10 := ⟨⟨⟨gj_in (List.mem_of_getElem? (i := 1170) rfl) (by decide +kernel), gj_in (List.mem_of_getElem? (i := 66) (by decide +kernel)) (by decide +kernel), by decide +kernel, by decide +kernel, by decide⟩, gj_in (List.mem_of_getElem? (i := 1168) (by decide +kernel)) (by decide +kernel), gj_in (List.mem_of_getElem? (i := 1169) (by decide +kernel)) (by decide +kernel)⟩, TX10, 26, rfl⟩
theorem wm_L_108 : Cond.methodLink RL 108 yX9_fits ∈ gj_tb := gj_in (List.mem_of_getElem? (i := 690) (by decide +kernel)) (by decide +kernel)
set_option maxRecDepth 100000 in
theorem uX9_fits : gj_YC yX9_fits cX9_fits 5 (some .int) 2 9 := ⟨⟨⟨gj_in (List.mem_of_getElem? (i := 693) rfl) (by decide +kernel), gj_in (List.mem_of_getElem? (i := 54) (by decide +kernel)) (by decide +kernel), by decide +kernel, by decide +kernel, by decide⟩, gj_in (List.mem_of_getElem? (i := 691) (by decide +kernel)) (by decide +kernel), gj_in (List.mem_of_getElem? (i := 692) (by decide +kernel)) (by decide +kernel)⟩, TX9, 9, rfl⟩
theorem wm_L_111 : Cond.methodLink RL 111 yX10_fits ∈ gj_tb := gj_in (List.mem_of_getElem? (i := 1171) (by decide +kernel)) (by decide +kernel)
set_option maxRecDepth 100000 in
theorem uX10_fits : gj_YC yX10_fits cX10_fits 6 (some .int) 2 10 := ⟨⟨⟨gj_in (List.mem_of_getElem? (i := 1174) rfl) (by decide +kernel), gj_in (List.mem_of_getElem? (i := 66) (by decide +kernel)) (by decide +kernel), by decide +kernel, by decide +kernel, by decide⟩, gj_in (List.mem_of_getElem? (i := 1172) (by decide +kernel)) (by decide +kernel), gj_in (List.mem_of_getElem? (i := 1173) (by decide +kernel)) (by decide +kernel)⟩, TX10, 26, rfl⟩
theorem wm_L_112 : Cond.methodLink RL 112 yX9_owed ∈ gj_tb := gj_in (List.mem_of_getElem? (i := 704) (by decide +kernel)) (by decide +kernel)
set_option maxRecDepth 100000 in
theorem uX9_owed : gj_YC yX9_owed cX9_owed 2 (some .int) 1 9 := ⟨⟨⟨gj_in (List.mem_of_getElem? (i := 707) rfl) (by decide +kernel), gj_in (List.mem_of_getElem? (i := 54) (by decide +kernel)) (by decide +kernel), by decide +kernel, by decide +kernel, by decide⟩, gj_in (List.mem_of_getElem? (i := 705) (by decide +kernel)) (by decide +kernel), gj_in (List.mem_of_getElem? (i := 706) (by decide +kernel)) (by decide +kernel)⟩, TX9, 9, rfl⟩
theorem wm_L_115 : Cond.methodLink RL 115 yX10_owed ∈ gj_tb := gj_in (List.mem_of_getElem? (i := 1182) (by decide +kernel)) (by decide +kernel)
set_option maxRecDepth 100000 in
theorem uX10_owed : gj_YC yX10_owed cX10_owed 3 (some .int) 1 10 := ⟨⟨⟨gj_in (List.mem_of_getElem? (i := 1185) rfl) (by decide +kernel), gj_in (List.mem_of_getElem? (i := 66) (by decide +kernel)) (by decide +kernel), by decide +kernel, by decide +kernel, by decide⟩, gj_in (List.mem_of_getElem? (i := 1183) (by decide +kernel)) (by decide +kernel), gj_in (List.mem_of_getElem? (i := 1184) (by decide +kernel)) (by decide +kernel)⟩, TX10, 26, rfl⟩
theorem wm_L_116 : Cond.methodLink RL 116 yX9_debtor ∈ gj_tb := gj_in (List.mem_of_getElem? (i := 712) (by decide +kernel)) (by decide +kernel)
set_option maxRecDepth 100000 in
theorem uX9_debtor : gj_YC yX9_debtor cX9_debtor 2 (some .int) 1 9 := ⟨⟨⟨gj_in (List.mem_of_getElem? (i := 715) rfl) (by decide +kernel), gj_in (List.mem_of_getElem? (i := 54) (by decide +kernel)) (by decide +kernel), by decide +kernel, by decide +kernel, by decide⟩, gj_in (List.mem_of_getElem? (i := 713) (by decide +kernel)) (by decide +kernel), gj_in (List.mem_of_getElem? (i := 714) (by decide +kernel)) (by decide +kernel)⟩, TX9, 9, rfl⟩
theorem wm_L_119 : Cond.methodLink RL 119 yX10_debtor ∈ gj_tb := gj_in (List.mem_of_getElem? (i := 1186) (by decide +kernel)) (by decide +kernel)
set_option maxRecDepth 100000 in
theorem uX10_debtor : gj_YC yX10_debtor cX10_debtor 6 (some .int) 1 10 := ⟨⟨⟨gj_in (List.mem_of_getElem? (i := 1189) rfl) (by decide +kernel), gj_in (List.mem_of_getElem? (i := 66) (by decide +kernel)) (by decide +kernel), by decide +kernel, by decide +kernel, by decide⟩, gj_in (List.mem_of_getElem? (i := 1187) (by decide +kernel)) (by decide +kernel), gj_in (List.mem_of_getElem? (i := 1188) (by decide +kernel)) (by decide +kernel)⟩, TX10, 26, rfl⟩
theorem wm_L_120 : Cond.methodLink RL 120 yX9_odds ∈ gj_tb := gj_in (List.mem_of_getElem? (i := 720) (by decide +kernel)) (by decide +kernel)
set_option maxRecDepth 100000 in
theorem uX9_odds : gj_YC yX9_odds cX9_odds 7 (some .int) 2 9 := ⟨⟨⟨gj_in (List.mem_of_getElem? (i := 723) rfl) (by decide +kernel), gj_in (List.mem_of_getElem? (i := 54) (by decide +kernel)) (by decide +kernel), by decide +kernel, by decide +kernel, by decide⟩, gj_in (List.mem_of_getElem? (i := 721) (by decide +kernel)) (by decide +kernel), gj_in (List.mem_of_getElem? (i := 722) (by decide +kernel)) (by decide +kernel)⟩, TX9, 9, rfl⟩
theorem wm_L_123 : Cond.methodLink RL 123 yX10_odds ∈ gj_tb := gj_in (List.mem_of_getElem? (i := 1190) (by decide +kernel)) (by decide +kernel)
set_option maxRecDepth 100000 in
theorem uX10_odds : gj_YC yX10_odds cX10_odds 7 (some .int) 2 10 := ⟨⟨⟨gj_in (List.mem_of_getElem? (i := 1193) rfl) (by decide +kernel), gj_in (List.mem_of_getElem? (i := 66) (by decide +kernel)) (by decide +kernel), by decide +kernel, by decide +kernel, by decide⟩, gj_in (List.mem_of_getElem? (i := 1191) (by decide +kernel)) (by decide +kernel), gj_in (List.mem_of_getElem? (i := 1192) (by decide +kernel)) (by decide +kernel)⟩, TX10, 26, rfl⟩
theorem wm_L_124 : Cond.methodLink RL 124 yX9_seed ∈ gj_tb := gj_in (List.mem_of_getElem? (i := 737) (by decide +kernel)) (by decide +kernel)
set_option maxRecDepth 100000 in
theorem uX9_seed : gj_YC yX9_seed cX9_seed 3 (some .int) 1 9 := ⟨⟨⟨gj_in (List.mem_of_getElem? (i := 740) rfl) (by decide +kernel), gj_in (List.mem_of_getElem? (i := 54) (by decide +kernel)) (by decide +kernel), by decide +kernel, by decide +kernel, by decide⟩, gj_in (List.mem_of_getElem? (i := 738) (by decide +kernel)) (by decide +kernel), gj_in (List.mem_of_getElem? (i := 739) (by decide +kernel)) (by decide +kernel)⟩, TX9, 9, rfl⟩
theorem wm_L_127 : Cond.methodLink RL 127 yX10_seed ∈ gj_tb := gj_in (List.mem_of_getElem? (i := 1197) (by decide +kernel)) (by decide +kernel)
set_option maxRecDepth 100000 in
theorem uX10_seed : gj_YC yX10_seed cX10_seed 3 (some .int) 1 10 := ⟨⟨⟨gj_in (List.mem_of_getElem? (i := 1200) rfl) (by decide +kernel), gj_in (List.mem_of_getElem? (i := 66) (by decide +kernel)) (by decide +kernel), by decide +kernel, by decide +kernel, by decide⟩, gj_in (List.mem_of_getElem? (i := 1198) (by decide +kernel)) (by decide +kernel), gj_in (List.mem_of_getElem? (i := 1199) (by decide +kernel)) (by decide +kernel)⟩, TX10, 26, rfl⟩
theorem wm_L_128 : Cond.methodLink RL 128 yX9_voice ∈ gj_tb := gj_in (List.mem_of_getElem? (i := 741) (by decide +kernel)) (by decide +kernel)
set_option maxRecDepth 100000 in
theorem uX9_voice : gj_YC yX9_voice cX9_voice 4 (some .int) 3 9 := ⟨⟨⟨gj_in (List.mem_of_getElem? (i := 744) rfl) (by decide +kernel), gj_in (List.mem_of_getElem? (i := 54) (by decide +kernel)) (by decide +kernel), by decide +kernel, by decide +kernel, by decide⟩, gj_in (List.mem_of_getElem? (i := 742) (by decide +kernel)) (by decide +kernel), gj_in (List.mem_of_getElem? (i := 743) (by decide +kernel)) (by decide +kernel)⟩, TX9, 9, rfl⟩
theorem wm_L_131 : Cond.methodLink RL 131 yX10_voice ∈ gj_tb := gj_in (List.mem_of_getElem? (i := 1201) (by decide +kernel)) (by decide +kernel)
set_option maxRecDepth 100000 in
theorem uX10_voice : gj_YC yX10_voice cX10_voice 4 (some .int) 3 10 := ⟨⟨⟨gj_in (List.mem_of_getElem? (i := 1204) rfl) (by decide +kernel), gj_in (List.mem_of_getElem? (i := 66) (by decide +kernel)) (by decide +kernel), by decide +kernel, by decide +kernel, by decide⟩, gj_in (List.mem_of_getElem? (i := 1202) (by decide +kernel)) (by decide +kernel), gj_in (List.mem_of_getElem? (i := 1203) (by decide +kernel)) (by decide +kernel)⟩, TX10, 26, rfl⟩
theorem wm_L_132 : Cond.methodLink RL 132 yX9_trace ∈ gj_tb := gj_in (List.mem_of_getElem? (i := 763) (by decide +kernel)) (by decide +kernel)
set_option maxRecDepth 100000 in
theorem uX9_trace : gj_YC yX9_trace cX9_trace 2 (some .int) 1 9 := ⟨⟨⟨gj_in (List.mem_of_getElem? (i := 766) rfl) (by decide +kernel), gj_in (List.mem_of_getElem? (i := 54) (by decide +kernel)) (by decide +kernel), by decide +kernel, by decide +kernel, by decide⟩, gj_in (List.mem_of_getElem? (i := 764) (by decide +kernel)) (by decide +kernel), gj_in (List.mem_of_getElem? (i := 765) (by decide +kernel)) (by decide +kernel)⟩, TX9, 9, rfl⟩
theorem wm_L_135 : Cond.methodLink RL 135 yX10_trace ∈ gj_tb := gj_in (List.mem_of_getElem? (i := 1225) (by decide +kernel)) (by decide +kernel)
set_option maxRecDepth 100000 in
theorem uX10_trace : gj_YC yX10_trace cX10_trace 2 (some .int) 1 10 := ⟨⟨⟨gj_in (List.mem_of_getElem? (i := 1228) rfl) (by decide +kernel), gj_in (List.mem_of_getElem? (i := 66) (by decide +kernel)) (by decide +kernel), by decide +kernel, by decide +kernel, by decide⟩, gj_in (List.mem_of_getElem? (i := 1226) (by decide +kernel)) (by decide +kernel), gj_in (List.mem_of_getElem? (i := 1227) (by decide +kernel)) (by decide +kernel)⟩, TX10, 26, rfl⟩
theorem wm_L_136 : Cond.methodLink RL 136 yX9_sheet ∈ gj_tb := gj_in (List.mem_of_getElem? (i := 767) (by decide +kernel)) (by decide +kernel)
set_option maxRecDepth 100000 in
theorem uX9_sheet : gj_YC yX9_sheet cX9_sheet 4 (some .int) 3 9 := ⟨⟨⟨gj_in (List.mem_of_getElem? (i := 770) rfl) (by decide +kernel), gj_in (List.mem_of_getElem? (i := 54) (by decide +kernel)) (by decide +kernel), by decide +kernel, by decide +kernel, by decide⟩, gj_in (List.mem_of_getElem? (i := 768) (by decide +kernel)) (by decide +kernel), gj_in (List.mem_of_getElem? (i := 769) (by decide +kernel)) (by decide +kernel)⟩, TX9, 9, rfl⟩
theorem wm_L_139 : Cond.methodLink RL 139 yX10_sheet ∈ gj_tb := gj_in (List.mem_of_getElem? (i := 1229) (by decide +kernel)) (by decide +kernel)
set_option maxRecDepth 100000 in
theorem uX10_sheet : gj_YC yX10_sheet cX10_sheet 5 (some .int) 3 10 := ⟨⟨⟨gj_in (List.mem_of_getElem? (i := 1232) rfl) (by decide +kernel), gj_in (List.mem_of_getElem? (i := 66) (by decide +kernel)) (by decide +kernel), by decide +kernel, by decide +kernel, by decide⟩, gj_in (List.mem_of_getElem? (i := 1230) (by decide +kernel)) (by decide +kernel), gj_in (List.mem_of_getElem? (i := 1231) (by decide +kernel)) (by decide +kernel)⟩, TX10, 26, rfl⟩
theorem wm_L_140 : Cond.methodLink RL 140 yX9_put ∈ gj_tb := gj_in (List.mem_of_getElem? (i := 776) (by decide +kernel)) (by decide +kernel)
set_option maxRecDepth 100000 in
theorem uX9_put : gj_YC yX9_put cX9_put 5 (some .int) 3 9 := ⟨⟨⟨gj_in (List.mem_of_getElem? (i := 779) rfl) (by decide +kernel), gj_in (List.mem_of_getElem? (i := 54) (by decide +kernel)) (by decide +kernel), by decide +kernel, by decide +kernel, by decide⟩, gj_in (List.mem_of_getElem? (i := 777) (by decide +kernel)) (by decide +kernel), gj_in (List.mem_of_getElem? (i := 778) (by decide +kernel)) (by decide +kernel)⟩, TX9, 9, rfl⟩
theorem wm_L_143 : Cond.methodLink RL 143 yX10_put ∈ gj_tb := gj_in (List.mem_of_getElem? (i := 1233) (by decide +kernel)) (by decide +kernel)
set_option maxRecDepth 100000 in
theorem uX10_put : gj_YC yX10_put cX10_put 4 (some .int) 3 10 := ⟨⟨⟨gj_in (List.mem_of_getElem? (i := 1236) rfl) (by decide +kernel), gj_in (List.mem_of_getElem? (i := 66) (by decide +kernel)) (by decide +kernel), by decide +kernel, by decide +kernel, by decide⟩, gj_in (List.mem_of_getElem? (i := 1234) (by decide +kernel)) (by decide +kernel), gj_in (List.mem_of_getElem? (i := 1235) (by decide +kernel)) (by decide +kernel)⟩, TX10, 26, rfl⟩
theorem wm_L_144 : Cond.methodLink RL 144 yX9_move ∈ gj_tb := gj_in (List.mem_of_getElem? (i := 784) (by decide +kernel)) (by decide +kernel)
set_option maxRecDepth 100000 in
theorem uX9_move : gj_YC yX9_move cX9_move 8 (some .int) 5 9 := ⟨⟨⟨gj_in (List.mem_of_getElem? (i := 787) rfl) (by decide +kernel), gj_in (List.mem_of_getElem? (i := 54) (by decide +kernel)) (by decide +kernel), by decide +kernel, by decide +kernel, by decide⟩, gj_in (List.mem_of_getElem? (i := 785) (by decide +kernel)) (by decide +kernel), gj_in (List.mem_of_getElem? (i := 786) (by decide +kernel)) (by decide +kernel)⟩, TX9, 9, rfl⟩
theorem wm_L_148 : Cond.methodLink RL 148 yX10_move ∈ gj_tb := gj_in (List.mem_of_getElem? (i := 1240) (by decide +kernel)) (by decide +kernel)
set_option maxRecDepth 100000 in
theorem uX10_move : gj_YC yX10_move cX10_move 7 (some .int) 5 10 := ⟨⟨⟨gj_in (List.mem_of_getElem? (i := 1243) rfl) (by decide +kernel), gj_in (List.mem_of_getElem? (i := 66) (by decide +kernel)) (by decide +kernel), by decide +kernel, by decide +kernel, by decide⟩, gj_in (List.mem_of_getElem? (i := 1241) (by decide +kernel)) (by decide +kernel), gj_in (List.mem_of_getElem? (i := 1242) (by decide +kernel)) (by decide +kernel)⟩, TX10, 26, rfl⟩
theorem wm_L_149 : Cond.methodLink RL 149 yX9_debts ∈ gj_tb := gj_in (List.mem_of_getElem? (i := 793) (by decide +kernel)) (by decide +kernel)
set_option maxRecDepth 100000 in
theorem uX9_debts : gj_YC yX9_debts cX9_debts 4 (some .int) 1 9 := ⟨⟨⟨gj_in (List.mem_of_getElem? (i := 796) rfl) (by decide +kernel), gj_in (List.mem_of_getElem? (i := 54) (by decide +kernel)) (by decide +kernel), by decide +kernel, by decide +kernel, by decide⟩, gj_in (List.mem_of_getElem? (i := 794) (by decide +kernel)) (by decide +kernel), gj_in (List.mem_of_getElem? (i := 795) (by decide +kernel)) (by decide +kernel)⟩, TX9, 9, rfl⟩
theorem wm_L_152 : Cond.methodLink RL 152 yX10_debts ∈ gj_tb := gj_in (List.mem_of_getElem? (i := 1244) (by decide +kernel)) (by decide +kernel)
set_option maxRecDepth 100000 in
theorem uX10_debts : gj_YC yX10_debts cX10_debts 3 (some .int) 1 10 := ⟨⟨⟨gj_in (List.mem_of_getElem? (i := 1247) rfl) (by decide +kernel), gj_in (List.mem_of_getElem? (i := 66) (by decide +kernel)) (by decide +kernel), by decide +kernel, by decide +kernel, by decide⟩, gj_in (List.mem_of_getElem? (i := 1245) (by decide +kernel)) (by decide +kernel), gj_in (List.mem_of_getElem? (i := 1246) (by decide +kernel)) (by decide +kernel)⟩, TX10, 26, rfl⟩
theorem wm_L_153 : Cond.methodLink RL 153 yX9_judge ∈ gj_tb := gj_in (List.mem_of_getElem? (i := 797) (by decide +kernel)) (by decide +kernel)
set_option maxRecDepth 100000 in
theorem uX9_judge : gj_YC yX9_judge cX9_judge 5 (some .int) 1 9 := ⟨⟨⟨gj_in (List.mem_of_getElem? (i := 800) rfl) (by decide +kernel), gj_in (List.mem_of_getElem? (i := 54) (by decide +kernel)) (by decide +kernel), by decide +kernel, by decide +kernel, by decide⟩, gj_in (List.mem_of_getElem? (i := 798) (by decide +kernel)) (by decide +kernel), gj_in (List.mem_of_getElem? (i := 799) (by decide +kernel)) (by decide +kernel)⟩, TX9, 9, rfl⟩
theorem wm_L_156 : Cond.methodLink RL 156 yX10_judge ∈ gj_tb := gj_in (List.mem_of_getElem? (i := 1248) (by decide +kernel)) (by decide +kernel)
set_option maxRecDepth 100000 in
theorem uX10_judge : gj_YC yX10_judge cX10_judge 3 (some .int) 1 10 := ⟨⟨⟨gj_in (List.mem_of_getElem? (i := 1251) rfl) (by decide +kernel), gj_in (List.mem_of_getElem? (i := 66) (by decide +kernel)) (by decide +kernel), by decide +kernel, by decide +kernel, by decide⟩, gj_in (List.mem_of_getElem? (i := 1249) (by decide +kernel)) (by decide +kernel), gj_in (List.mem_of_getElem? (i := 1250) (by decide +kernel)) (by decide +kernel)⟩, TX10, 26, rfl⟩
theorem wm_L_157 : Cond.methodLink RL 157 yX9_image ∈ gj_tb := gj_in (List.mem_of_getElem? (i := 802) (by decide +kernel)) (by decide +kernel)
set_option maxRecDepth 100000 in
theorem uX9_image : gj_YC yX9_image cX9_image 1 (some .int) 0 9 := ⟨⟨⟨gj_in (List.mem_of_getElem? (i := 805) rfl) (by decide +kernel), gj_in (List.mem_of_getElem? (i := 54) (by decide +kernel)) (by decide +kernel), by decide +kernel, by decide +kernel, by decide⟩, gj_in (List.mem_of_getElem? (i := 803) (by decide +kernel)) (by decide +kernel), gj_in (List.mem_of_getElem? (i := 804) (by decide +kernel)) (by decide +kernel)⟩, TX9, 9, rfl⟩
theorem wm_L_161 : Cond.methodLink RL 161 yX10_image ∈ gj_tb := gj_in (List.mem_of_getElem? (i := 1252) (by decide +kernel)) (by decide +kernel)
set_option maxRecDepth 100000 in
theorem uX10_image : gj_YC yX10_image cX10_image 1 (some .int) 0 10 := ⟨⟨⟨gj_in (List.mem_of_getElem? (i := 1255) rfl) (by decide +kernel), gj_in (List.mem_of_getElem? (i := 66) (by decide +kernel)) (by decide +kernel), by decide +kernel, by decide +kernel, by decide⟩, gj_in (List.mem_of_getElem? (i := 1253) (by decide +kernel)) (by decide +kernel), gj_in (List.mem_of_getElem? (i := 1254) (by decide +kernel)) (by decide +kernel)⟩, TX10, 26, rfl⟩
theorem wm_L_162 : Cond.methodLink RL 162 yX9_restore ∈ gj_tb := gj_in (List.mem_of_getElem? (i := 816) (by decide +kernel)) (by decide +kernel)
set_option maxRecDepth 100000 in
theorem uX9_restore : gj_YC yX9_restore cX9_restore 1 (some .int) 0 9 := ⟨⟨⟨gj_in (List.mem_of_getElem? (i := 819) rfl) (by decide +kernel), gj_in (List.mem_of_getElem? (i := 54) (by decide +kernel)) (by decide +kernel), by decide +kernel, by decide +kernel, by decide⟩, gj_in (List.mem_of_getElem? (i := 817) (by decide +kernel)) (by decide +kernel), gj_in (List.mem_of_getElem? (i := 818) (by decide +kernel)) (by decide +kernel)⟩, TX9, 9, rfl⟩
theorem wm_L_165 : Cond.methodLink RL 165 yX10_restore ∈ gj_tb := gj_in (List.mem_of_getElem? (i := 1256) (by decide +kernel)) (by decide +kernel)
set_option maxRecDepth 100000 in
theorem uX10_restore : gj_YC yX10_restore cX10_restore 1 (some .int) 0 10 := ⟨⟨⟨gj_in (List.mem_of_getElem? (i := 1259) rfl) (by decide +kernel), gj_in (List.mem_of_getElem? (i := 66) (by decide +kernel)) (by decide +kernel), by decide +kernel, by decide +kernel, by decide⟩, gj_in (List.mem_of_getElem? (i := 1257) (by decide +kernel)) (by decide +kernel), gj_in (List.mem_of_getElem? (i := 1258) (by decide +kernel)) (by decide +kernel)⟩, TX10, 26, rfl⟩
theorem wm_L_166 : Cond.methodLink RL 166 yX9_tell ∈ gj_tb := gj_in (List.mem_of_getElem? (i := 820) (by decide +kernel)) (by decide +kernel)
set_option maxRecDepth 100000 in
theorem uX9_tell : gj_YC yX9_tell cX9_tell 2 (some .int) 1 9 := ⟨⟨⟨gj_in (List.mem_of_getElem? (i := 823) rfl) (by decide +kernel), gj_in (List.mem_of_getElem? (i := 54) (by decide +kernel)) (by decide +kernel), by decide +kernel, by decide +kernel, by decide⟩, gj_in (List.mem_of_getElem? (i := 821) (by decide +kernel)) (by decide +kernel), gj_in (List.mem_of_getElem? (i := 822) (by decide +kernel)) (by decide +kernel)⟩, TX9, 9, rfl⟩
theorem wm_L_169 : Cond.methodLink RL 169 yX10_tell ∈ gj_tb := gj_in (List.mem_of_getElem? (i := 1260) (by decide +kernel)) (by decide +kernel)
set_option maxRecDepth 100000 in
theorem uX10_tell : gj_YC yX10_tell cX10_tell 2 (some .int) 1 10 := ⟨⟨⟨gj_in (List.mem_of_getElem? (i := 1263) rfl) (by decide +kernel), gj_in (List.mem_of_getElem? (i := 66) (by decide +kernel)) (by decide +kernel), by decide +kernel, by decide +kernel, by decide⟩, gj_in (List.mem_of_getElem? (i := 1261) (by decide +kernel)) (by decide +kernel), gj_in (List.mem_of_getElem? (i := 1262) (by decide +kernel)) (by decide +kernel)⟩, TX10, 26, rfl⟩
theorem wm_L_170 : Cond.methodLink RL 170 yX9_check ∈ gj_tb := gj_in (List.mem_of_getElem? (i := 824) (by decide +kernel)) (by decide +kernel)
set_option maxRecDepth 100000 in
theorem uX9_check : gj_YC yX9_check cX9_check 2 (some .int) 0 9 := ⟨⟨⟨gj_in (List.mem_of_getElem? (i := 827) rfl) (by decide +kernel), gj_in (List.mem_of_getElem? (i := 54) (by decide +kernel)) (by decide +kernel), by decide +kernel, by decide +kernel, by decide⟩, gj_in (List.mem_of_getElem? (i := 825) (by decide +kernel)) (by decide +kernel), gj_in (List.mem_of_getElem? (i := 826) (by decide +kernel)) (by decide +kernel)⟩, TX9, 9, rfl⟩
theorem wm_L_173 : Cond.methodLink RL 173 yX10_check ∈ gj_tb := gj_in (List.mem_of_getElem? (i := 1264) (by decide +kernel)) (by decide +kernel)
set_option maxRecDepth 100000 in
theorem uX10_check : gj_YC yX10_check cX10_check 4 (some .int) 0 10 := ⟨⟨⟨gj_in (List.mem_of_getElem? (i := 1267) rfl) (by decide +kernel), gj_in (List.mem_of_getElem? (i := 66) (by decide +kernel)) (by decide +kernel), by decide +kernel, by decide +kernel, by decide⟩, gj_in (List.mem_of_getElem? (i := 1265) (by decide +kernel)) (by decide +kernel), gj_in (List.mem_of_getElem? (i := 1266) (by decide +kernel)) (by decide +kernel)⟩, TX10, 26, rfl⟩
theorem wm_L_174 : Cond.methodLink RL 174 yX9_count ∈ gj_tb := gj_in (List.mem_of_getElem? (i := 833) (by decide +kernel)) (by decide +kernel)
set_option maxRecDepth 100000 in
theorem uX9_count : gj_YC yX9_count cX9_count 2 (some .int) 1 9 := ⟨⟨⟨gj_in (List.mem_of_getElem? (i := 836) rfl) (by decide +kernel), gj_in (List.mem_of_getElem? (i := 54) (by decide +kernel)) (by decide +kernel), by decide +kernel, by decide +kernel, by decide⟩, gj_in (List.mem_of_getElem? (i := 834) (by decide +kernel)) (by decide +kernel), gj_in (List.mem_of_getElem? (i := 835) (by decide +kernel)) (by decide +kernel)⟩, TX9, 9, rfl⟩
theorem wm_L_177 : Cond.methodLink RL 177 yX10_count ∈ gj_tb := gj_in (List.mem_of_getElem? (i := 1268) (by decide +kernel)) (by decide +kernel)
set_option maxRecDepth 100000 in
theorem uX10_count : gj_YC yX10_count cX10_count 2 (some .int) 1 10 := ⟨⟨⟨gj_in (List.mem_of_getElem? (i := 1271) rfl) (by decide +kernel), gj_in (List.mem_of_getElem? (i := 66) (by decide +kernel)) (by decide +kernel), by decide +kernel, by decide +kernel, by decide⟩, gj_in (List.mem_of_getElem? (i := 1269) (by decide +kernel)) (by decide +kernel), gj_in (List.mem_of_getElem? (i := 1270) (by decide +kernel)) (by decide +kernel)⟩, TX10, 26, rfl⟩
theorem wm_L_178 : Cond.methodLink RL 178 yX9_told ∈ gj_tb := gj_in (List.mem_of_getElem? (i := 841) (by decide +kernel)) (by decide +kernel)
set_option maxRecDepth 100000 in
theorem uX9_told : gj_YC yX9_told cX9_told 2 (some .int) 1 9 := ⟨⟨⟨gj_in (List.mem_of_getElem? (i := 844) rfl) (by decide +kernel), gj_in (List.mem_of_getElem? (i := 54) (by decide +kernel)) (by decide +kernel), by decide +kernel, by decide +kernel, by decide⟩, gj_in (List.mem_of_getElem? (i := 842) (by decide +kernel)) (by decide +kernel), gj_in (List.mem_of_getElem? (i := 843) (by decide +kernel)) (by decide +kernel)⟩, TX9, 9, rfl⟩
theorem wm_L_181 : Cond.methodLink RL 181 yX10_told ∈ gj_tb := gj_in (List.mem_of_getElem? (i := 1272) (by decide +kernel)) (by decide +kernel)
set_option maxRecDepth 100000 in
theorem uX10_told : gj_YC yX10_told cX10_told 2 (some .int) 1 10 := ⟨⟨⟨gj_in (List.mem_of_getElem? (i := 1275) rfl) (by decide +kernel), gj_in (List.mem_of_getElem? (i := 66) (by decide +kernel)) (by decide +kernel), by decide +kernel, by decide +kernel, by decide⟩, gj_in (List.mem_of_getElem? (i := 1273) (by decide +kernel)) (by decide +kernel), gj_in (List.mem_of_getElem? (i := 1274) (by decide +kernel)) (by decide +kernel)⟩, TX10, 26, rfl⟩
/-! THE CLAIM OUT OF ONE WALK OF THE LAW'S BODY. Your part is whole_start (and what it stands on); all else here is the same for every law, but numbers. -/
def R_law : String := "CraneFoldsLaw"
def lw_P (b : Addr) (xs : List Int32) (args : Array Value) (s : State) : Prop := args = #[.ref b] ∧ s.IntsAt b xs ∧ xs.length ≤ 3072 ∧ (Jvm.Cond.and given_1 narrow_1).before args s = true
def lw_Q (_ : Array Value) (s : State) (o : Outcome) (t : State) : Prop := o = .returned (some (.int 1)) ∧ Framed s o t [] 600000 7302250
def lw_Z (below : List Frame) (a : Array Value) (s : State) : State → Prop := fun t => ∃ o, t.status = .running ∧ Ended t below o ∧ lw_Q a s o t
/-- the law's own end, with 1 on the stack, nothing written that was there before, its room as the claim has it -/
theorem lw_ret {p : Program} {l : Launch} {e : Env} {s : State} {m : MethodId} {below : List Frame} {meth : Method} {c : Code} {b : Nat} (hx : p.tables.exec = Jvm.exec) (hb : c.code = code) (hr : meth.sig.returnType = ret) (hlocks : meth.locks = false) {pc : Nat} {H : Heap} {ls : Array Slot} (hdg : decode code pc = .ok (.ireturn, 1)) : W p l e room_1 s m #[Value.ref b] below meth c H [] 600000 7302250 (lw_Z below #[Value.ref b] s) (F0 m pc ls [.int 1]) := by
  intro T hT X
  obtain ⟨fs, hret, hrun, hended, hW, hframe⟩ := X.leave (v := some (.int 1)) (hlocks := hlocks) (fun h => by rw [hr] at h; cases h)
  have hmeth' : T.vm.method? m = some meth := X.method'
  refine ⟨T.setFrames fs, ?_, .returned (some (.int 1)), hrun, hended, rfl, ⟨_, rfl⟩, hW, hframe⟩
  jvm_step X.here [X.here.top, hx, hb, hdg, hmeth', hr, ret, narrow_b1]
  (try refine ⟨rfl, ?_⟩); (try refine ⟨rfl, ?_⟩)
  first | (intro acts; rw [hret _ acts rfl rfl rfl]) | rw [hret _ _ rfl rfl rfl]
  exact Steps.refl _
/-- what holds at the law's entry: the machine, the code, the tables' words (any of lw_tbl by 'hts w (by decide +kernel)'), the script of L ints xs at the cell b, what the Statement gives of the start (any of its parts by flat_of_before) -/
def lw_At (p : Program) (s : State) (m : MethodId) (meth : Method) (c : Code) (b L : Nat) (xs : Nat → Int32) : Prop :=
  p.tables.exec = Jvm.exec ∧ c.code = code ∧ meth.sig.returnType = ret ∧ c.maxLocals = 4 ∧ s.vm.findClass R_law = some m.cls ∧ (∀ w ∈ lw_tbl, w.before #[Value.ref b] s = true) ∧ va_X b L xs s s.heap ∧ b < s.heap.size ∧ meth.locks = false ∧ (Jvm.Cond.and given_1 narrow_1).before #[Value.ref b] s = true

/-! ===== two worlds: the class's cells from base on, the reference's behind them ===== -/
def gl_ad (base ta tb k : Nat) : Nat := if k < 1000 then base + k else if k = 1000 then ta else tb
def gl_id (k : Nat) : Nat := k
def gl_A1 (base : Nat) : Nat → Prop := fun q => base ≤ q ∧ (q < base + 65 ∨ base + 78 ≤ q)
def gl_A2 (base : Nat) : Nat → Prop := fun q => base + 65 ≤ q
theorem gl_ad_lt {base ta tb k : Nat} (h : k < 1000) : gl_ad base ta tb k = base + k := by simp [gl_ad, h]
theorem gl_x_D {base ta tb : Nat} {tc : Nat → ClassId} {A : Nat → Prop} {w : ab_W} (hw : w.length ≤ 1000) (hA : ∀ k, k < w.length → A (base + k)) : va_D A (ab_x (gl_ad base ta tb) tc w) := by
  have key : ∀ (i : Nat) (p : Nat × va_E), (ab_x (gl_ad base ta tb) tc w)[i]? = some p → i < w.length ∧ p.1 = base + i := by
    intro i p h
    simp only [ab_x, List.getElem?_mapIdx, Option.map_eq_some_iff] at h
    obtain ⟨e, h1, rfl⟩ := h
    have h2 := (List.getElem?_eq_some_iff.mp h1).1
    exact ⟨h2, gl_ad_lt (by omega)⟩
  refine ⟨fun i j p q hp hq hpq => ?_, fun k q hk => ?_⟩
  · have h1 := key i p hp
    have h2 := key j q hq
    omega
  · have h1 := key k q hk
    rw [h1.2]
    exact hA k h1.1
theorem gl_x_key {base ta tb : Nat} {tc : Nat → ClassId} {w : ab_W} (hw : w.length ≤ 1000) {i : Nat} {p : Nat × va_E} (h : (ab_x (gl_ad base ta tb) tc w)[i]? = some p) : i < w.length ∧ p.1 = base + i := by
  simp only [ab_x, List.getElem?_mapIdx, Option.map_eq_some_iff] at h
  obtain ⟨e, h1, rfl⟩ := h
  have h2 := (List.getElem?_eq_some_iff.mp h1).1
  exact ⟨h2, gl_ad_lt (by omega)⟩
theorem gl_P_lt {D : va_G} {base ta tb : Nat} {tc : Nat → ClassId} {w : ab_W} {H : Heap} (hw : w.length ≤ 1000) (hP : va_P D vwCl (ab_x (gl_ad base ta tb) tc w) H) {k : Nat} (hk : k < w.length) : base + k < H.size := by
  have h1 := (hP k _ (ab_x_get (List.getElem?_eq_getElem hk))).lt
  have h2 : gl_ad base ta tb k = base + k := gl_ad_lt (by omega)
  have h3 : gl_ad base ta tb k < H.size := h1
  omega
theorem gl_P_kept {D : va_G} {base ta tb : Nat} {tc : Nat → ClassId} {w : ab_W} {H H1 : Heap} (hw : w.length ≤ 1000) (hP : va_P D vwCl (ab_x (gl_ad base ta tb) tc w) H) (hk : ∀ k, k < w.length → H1[base + k]? = H[base + k]?) : va_P D vwCl (ab_x (gl_ad base ta tb) tc w) H1 :=
  hP.kept (fun k q h => by
    have h1 := gl_x_key hw h
    rw [h1.2]
    exact hk k h1.1)
theorem gl_S_ad {base base' ta tb : Nat} {A : Nat → Prop} {U : State} {H : Heap} (h : gj_S (gl_ad base ta tb) A U H) : gj_S (gl_ad base' ta tb) A U H := h
def gl_C (p : Program) (s : State) (m : MethodId) (meth : Method) (c : Code) (b L : Nat) (xs : Nat → Int32) (D : va_G) (tc : Nat → ClassId) (ta tb : Nat) : Prop :=
  (p.tables.exec = Jvm.exec ∧ c.code = cL_law ∧ c.maxLocals = 4 ∧ s.vm.findClass RL = some m.cls ∧ (∀ w ∈ gj_tb, w.before #[Value.ref b] s = true)) ∧ meth.sig.returnType = ret ∧ meth.locks = false ∧ (va_X b L xs s s.heap ∧ b < s.heap.size ∧ L ≤ 3072) ∧ va_K D vwCl (ab_t tc) s ∧ gj_S (gl_ad 0 ta tb) (fun q => s.heap.size ≤ q) s s.heap ∧ gj_N s
def gl_G (p : Program) (l : Launch) (e : Env) (s : State) (m : MethodId) (below : List Frame) (meth : Method) (c : Code) (b : Nat) (D : va_G) (tc : Nat → ClassId) (ta tb : Nat) (Q : State → Prop) (pc : Nat) (lv : List (Option Value)) (st : List Value) (wc wm : ab_W) : Prop :=
  ∀ (H : Heap) (locs : List Loc) (ls : Array Slot), gj_L gl_id 4 lv ls → va_P D vwCl (ab_x (gl_ad s.heap.size ta tb) tc wc) H → va_P D vwCl (ab_x (gl_ad (s.heap.size + 65) ta tb) tc wm) H → wc.length = 65 → wm.length = 13 → va_S (fun q : Nat => s.heap.size ≤ q) s.heap H locs → W p l e room_1 s m #[Value.ref b] below meth c H locs 78 2924 Q (F0 m pc ls (st.map (ab_v gl_id)))
section GL
variable {p : Program} {l : Launch} {e : Env} {s : State} {m : MethodId} {below : List Frame} {meth : Method} {c : Code} {b L : Nat} {xs : Nat → Int32} {D : va_G} {tc : Nat → ClassId} {ta tb : Nat} {Q : State → Prop} {pc pc' : Nat} {lv : List (Option Value)} {st : List Value} {wc wm : ab_W}
theorem gl_iconst (C : gl_C p s m meth c b L xs D tc ta tb) {n : Int} {v : Int32} (hp : pc + 1 = pc') (hd : decode cL_law pc = .ok (.iconst n, 1)) (hv : Int32.ofInt n = v) (k : gl_G p l e s m below meth c b D tc ta tb Q pc' lv (.int v :: st) wc wm) : gl_G p l e s m below meth c b D tc ta tb Q pc lv st wc wm := by
  obtain ⟨⟨hx, hb, hml, hown, hts⟩, hr, hlk, ⟨hX, hbl, hL3⟩, hK, hSt, hNw⟩ := C
  subst hp
  intro H locs ls hL hP hPm hwc hwm hS
  exact lv_iconst hx hb hd hv (k H locs ls hL hP hPm hwc hwm hS)
theorem gl_bipush (C : gl_C p s m meth c b L xs D tc ta tb) {n : Int} {v : Int32} (hp : pc + 2 = pc') (hd : decode cL_law pc = .ok (.bipush n, 2)) (hv : (Int8.ofInt n).toInt32 = v) (k : gl_G p l e s m below meth c b D tc ta tb Q pc' lv (.int v :: st) wc wm) : gl_G p l e s m below meth c b D tc ta tb Q pc lv st wc wm := by
  obtain ⟨⟨hx, hb, hml, hown, hts⟩, hr, hlk, ⟨hX, hbl, hL3⟩, hK, hSt, hNw⟩ := C
  subst hp
  intro H locs ls hL hP hPm hwc hwm hS
  exact lv_bipush hx hb hd hv (k H locs ls hL hP hPm hwc hwm hS)
theorem gl_iload_n (C : gl_C p s m meth c b L xs D tc ta tb) {k0 : Fin 4} {i : Nat} {x : Int32} (hp : pc + 1 = pc') (hd : decode cL_law pc = .ok (.iload_n k0, 1)) (hi : (k0 : Nat) = i) (hl : lv[i]? = some (some (.int x))) (k : gl_G p l e s m below meth c b D tc ta tb Q pc' lv (.int x :: st) wc wm) : gl_G p l e s m below meth c b D tc ta tb Q pc lv st wc wm := by
  obtain ⟨⟨hx, hb, hml, hown, hts⟩, hr, hlk, ⟨hX, hbl, hL3⟩, hK, hSt, hNw⟩ := C
  subst hp
  intro H locs ls hL hP hPm hwc hwm hS
  exact lv_iload_n hx hb hd hi (hL.2.2 i _ hl) (k H locs ls hL hP hPm hwc hwm hS)
theorem gl_aload_n (C : gl_C p s m meth c b L xs D tc ta tb) {k0 : Fin 4} {i : Nat} {x : Nat} (hp : pc + 1 = pc') (hd : decode cL_law pc = .ok (.aload_n k0, 1)) (hi : (k0 : Nat) = i) (hl : lv[i]? = some (some (.ref x))) (k : gl_G p l e s m below meth c b D tc ta tb Q pc' lv (.ref x :: st) wc wm) : gl_G p l e s m below meth c b D tc ta tb Q pc lv st wc wm := by
  obtain ⟨⟨hx, hb, hml, hown, hts⟩, hr, hlk, ⟨hX, hbl, hL3⟩, hK, hSt, hNw⟩ := C
  subst hp
  intro H locs ls hL hP hPm hwc hwm hS
  exact lv_aload_n hx hb hd hi (hL.2.2 i _ hl) (k H locs ls hL hP hPm hwc hwm hS)
theorem gl_iadd (C : gl_C p s m meth c b L xs D tc ta tb) {x y : Int32} (hp : pc + 1 = pc') (hd : decode cL_law pc = .ok (.iadd, 1))  (k : gl_G p l e s m below meth c b D tc ta tb Q pc' lv (.int (x + y) :: st) wc wm) : gl_G p l e s m below meth c b D tc ta tb Q pc lv (.int y :: .int x :: st) wc wm := by
  obtain ⟨⟨hx, hb, hml, hown, hts⟩, hr, hlk, ⟨hX, hbl, hL3⟩, hK, hSt, hNw⟩ := C
  subst hp
  intro H locs ls hL hP hPm hwc hwm hS
  exact lv_iadd hx hb hd (k H locs ls hL hP hPm hwc hwm hS)
theorem gl_isub (C : gl_C p s m meth c b L xs D tc ta tb) {x y : Int32} (hp : pc + 1 = pc') (hd : decode cL_law pc = .ok (.isub, 1))  (k : gl_G p l e s m below meth c b D tc ta tb Q pc' lv (.int (x - y) :: st) wc wm) : gl_G p l e s m below meth c b D tc ta tb Q pc lv (.int y :: .int x :: st) wc wm := by
  obtain ⟨⟨hx, hb, hml, hown, hts⟩, hr, hlk, ⟨hX, hbl, hL3⟩, hK, hSt, hNw⟩ := C
  subst hp
  intro H locs ls hL hP hPm hwc hwm hS
  exact lv_isub hx hb hd (k H locs ls hL hP hPm hwc hwm hS)
theorem gl_iand (C : gl_C p s m meth c b L xs D tc ta tb) {x y : Int32} (hp : pc + 1 = pc') (hd : decode cL_law pc = .ok (.iand, 1))  (k : gl_G p l e s m below meth c b D tc ta tb Q pc' lv (.int (x &&& y) :: st) wc wm) : gl_G p l e s m below meth c b D tc ta tb Q pc lv (.int y :: .int x :: st) wc wm := by
  obtain ⟨⟨hx, hb, hml, hown, hts⟩, hr, hlk, ⟨hX, hbl, hL3⟩, hK, hSt, hNw⟩ := C
  subst hp
  intro H locs ls hL hP hPm hwc hwm hS
  exact lv_iand hx hb hd (k H locs ls hL hP hPm hwc hwm hS)
theorem gl_i2l (C : gl_C p s m meth c b L xs D tc ta tb) {x : Int32} (hp : pc + 1 = pc') (hd : decode cL_law pc = .ok (.i2l, 1))  (k : gl_G p l e s m below meth c b D tc ta tb Q pc' lv (.long x.toInt64 :: st) wc wm) : gl_G p l e s m below meth c b D tc ta tb Q pc lv (.int x :: st) wc wm := by
  obtain ⟨⟨hx, hb, hml, hown, hts⟩, hr, hlk, ⟨hX, hbl, hL3⟩, hK, hSt, hNw⟩ := C
  subst hp
  intro H locs ls hL hP hPm hwc hwm hS
  exact lv_i2l hx hb hd rfl (k H locs ls hL hP hPm hwc hwm hS)
theorem gl_land (C : gl_C p s m meth c b L xs D tc ta tb) {x y : Int64} (hp : pc + 1 = pc') (hd : decode cL_law pc = .ok (.land, 1))  (k : gl_G p l e s m below meth c b D tc ta tb Q pc' lv (.long (x &&& y) :: st) wc wm) : gl_G p l e s m below meth c b D tc ta tb Q pc lv (.long y :: .long x :: st) wc wm := by
  obtain ⟨⟨hx, hb, hml, hown, hts⟩, hr, hlk, ⟨hX, hbl, hL3⟩, hK, hSt, hNw⟩ := C
  subst hp
  intro H locs ls hL hP hPm hwc hwm hS
  exact lv_land hx hb hd (k H locs ls hL hP hPm hwc hwm hS)
theorem gl_lor (C : gl_C p s m meth c b L xs D tc ta tb) {x y : Int64} (hp : pc + 1 = pc') (hd : decode cL_law pc = .ok (.lor, 1))  (k : gl_G p l e s m below meth c b D tc ta tb Q pc' lv (.long (x ||| y) :: st) wc wm) : gl_G p l e s m below meth c b D tc ta tb Q pc lv (.long y :: .long x :: st) wc wm := by
  obtain ⟨⟨hx, hb, hml, hown, hts⟩, hr, hlk, ⟨hX, hbl, hL3⟩, hK, hSt, hNw⟩ := C
  subst hp
  intro H locs ls hL hP hPm hwc hwm hS
  exact lv_lor hx hb hd (k H locs ls hL hP hPm hwc hwm hS)
theorem gl_lshl (C : gl_C p s m meth c b L xs D tc ta tb) {x : Int64} {y : Int32} (hp : pc + 1 = pc') (hd : decode cL_law pc = .ok (.lshl, 1))  (k : gl_G p l e s m below meth c b D tc ta tb Q pc' lv (.long (x <<< (y.toInt64 &&& 63)) :: st) wc wm) : gl_G p l e s m below meth c b D tc ta tb Q pc lv (.int y :: .long x :: st) wc wm := by
  obtain ⟨⟨hx, hb, hml, hown, hts⟩, hr, hlk, ⟨hX, hbl, hL3⟩, hK, hSt, hNw⟩ := C
  subst hp
  intro H locs ls hL hP hPm hwc hwm hS
  exact lv_lshl hx hb hd rfl (k H locs ls hL hP hPm hwc hwm hS)
theorem gl_ldc2 (C : gl_C p s m meth c b L xs D tc ta tb) {idx : Nat} {v : Int64} (hp : pc + 3 = pc') (hd : decode cL_law pc = .ok (.ldc2_w idx, 3)) (hc : Cond.constantLong RL idx v ∈ gj_tb) (k : gl_G p l e s m below meth c b D tc ta tb Q pc' lv (.long v :: st) wc wm) : gl_G p l e s m below meth c b D tc ta tb Q pc lv st wc wm := by
  obtain ⟨⟨hx, hb, hml, hown, hts⟩, hr, hlk, ⟨hX, hbl, hL3⟩, hK, hSt, hNw⟩ := C
  subst hp
  intro H locs ls hL hP hPm hwc hwm hS
  exact lv_ldc2 hx hb hown (hts _ hc) hd (k H locs ls hL hP hPm hwc hwm hS)
theorem gl_slen (C : gl_C p s m meth c b L xs D tc ta tb)  (hp : pc + 1 = pc') (hd : decode cL_law pc = .ok (.arraylength, 1))  (k : gl_G p l e s m below meth c b D tc ta tb Q pc' lv (.int (Int32.ofNat L) :: st) wc wm) : gl_G p l e s m below meth c b D tc ta tb Q pc lv (.ref b :: st) wc wm := by
  obtain ⟨⟨hx, hb, hml, hown, hts⟩, hr, hlk, ⟨hX, hbl, hL3⟩, hK, hSt, hNw⟩ := C
  subst hp
  intro H locs ls hL hP hPm hwc hwm hS
  exact va_slen hx hb hX hbl (Nat.not_le.mpr hbl) hS hd (k H locs ls hL hP hPm hwc hwm hS)
theorem gl_sld (C : gl_C p s m meth c b L xs D tc ta tb) {i : Int32} (hp : pc + 1 = pc') (hd : decode cL_law pc = .ok (.iaload, 1)) (hin : vp_in i L) (k : gl_G p l e s m below meth c b D tc ta tb Q pc' lv (.int (xs i.toNatClampNeg) :: st) wc wm) : gl_G p l e s m below meth c b D tc ta tb Q pc lv (.int i :: .ref b :: st) wc wm := by
  obtain ⟨⟨hx, hb, hml, hown, hts⟩, hr, hlk, ⟨hX, hbl, hL3⟩, hK, hSt, hNw⟩ := C
  subst hp
  intro H locs ls hL hP hPm hwc hwm hS
  exact va_sld hx hb hX hbl (Nat.not_le.mpr hbl) hS hin hd (k H locs ls hL hP hPm hwc hwm hS)
theorem gl_goto (C : gl_C p s m meth c b L xs D tc ta tb) {off : Int} {tgt : Nat} (hd : decode cL_law pc = .ok (.goto off, 3)) (ht : (pc : Int) + off = (tgt : Int)) (k : gl_G p l e s m below meth c b D tc ta tb Q tgt lv st wc wm) : gl_G p l e s m below meth c b D tc ta tb Q pc lv st wc wm := by
  obtain ⟨⟨hx, hb, hml, hown, hts⟩, hr, hlk, ⟨hX, hbl, hL3⟩, hK, hSt, hNw⟩ := C
  intro H locs ls hL hP hPm hwc hwm hS
  exact lv_goto hx hb hd ht (k H locs ls hL hP hPm hwc hwm hS)
theorem gl_gt (C : gl_C p s m meth c b L xs D tc ta tb) {x y : Int32} {off : Int} {tgt : Nat} (hp : pc + 3 = pc') (hd : decode cL_law pc = .ok (.if_icmp .gt off, 3)) (ht : (pc : Int) + off = (tgt : Int)) (ka : y < x → gl_G p l e s m below meth c b D tc ta tb Q tgt lv st wc wm) (kb : ¬ y < x → gl_G p l e s m below meth c b D tc ta tb Q pc' lv st wc wm) : gl_G p l e s m below meth c b D tc ta tb Q pc lv (.int y :: .int x :: st) wc wm := by
  obtain ⟨⟨hx, hb, hml, hown, hts⟩, hr, hlk, ⟨hX, hbl, hL3⟩, hK, hSt, hNw⟩ := C
  subst hp
  intro H locs ls hL hP hPm hwc hwm hS
  exact lv_icmp_gt hx hb hd ht (fun h1 => ka h1 H locs ls hL hP hPm hwc hwm hS) (fun h1 => kb h1 H locs ls hL hP hPm hwc hwm hS)
theorem gl_eqT (C : gl_C p s m meth c b L xs D tc ta tb) {x : Int32} {off : Int} {tgt : Nat} (hd : decode cL_law pc = .ok (.if_icmp .eq off, 3)) (ht : (pc : Int) + off = (tgt : Int)) (k : gl_G p l e s m below meth c b D tc ta tb Q tgt lv st wc wm) : gl_G p l e s m below meth c b D tc ta tb Q pc lv (.int x :: .int x :: st) wc wm := by
  obtain ⟨⟨hx, hb, hml, hown, hts⟩, hr, hlk, ⟨hX, hbl, hL3⟩, hK, hSt, hNw⟩ := C
  intro H locs ls hL hP hPm hwc hwm hS
  exact lv_icmp_eq hx hb hd ht (fun h1 => k H locs ls hL hP hPm hwc hwm hS) (fun h1 => absurd rfl h1)
theorem gl_iinc (C : gl_C p s m meth c b L xs D tc ta tb) {i : Nat} {n : Int} {x v : Int32} {lv' : List (Option Value)} (hp : pc + 3 = pc') (hd : decode cL_law pc = .ok (.iinc i n, 3)) (hx0 : lv[i]? = some (some (.int x))) (hv : x + Int32.ofInt n = v) (hn : i < 4) (hok : gj_ok lv i = true) (hl : lv.set i (some (.int v)) = lv') (k : gl_G p l e s m below meth c b D tc ta tb Q pc' lv' st wc wm) : gl_G p l e s m below meth c b D tc ta tb Q pc lv st wc wm := by
  obtain ⟨⟨hx, hb, hml, hown, hts⟩, hr, hlk, ⟨hX, hbl, hL3⟩, hK, hSt, hNw⟩ := C
  subst hp
  subst hl
  intro H locs ls hL hP hPm hwc hwm hS
  obtain ⟨k1, hk1⟩ := gj_Lk gl_id hx0
  exact lv_iinc hx hb hd (gj_Lh hL) hk1 hv hn rfl (fun ls' h' => k H locs ls' (gj_Ls hL hok h') hP hPm hwc hwm hS)
theorem gl_tab (C : gl_C p s m meth c b L xs D tc ta tb) {dflt lo hi off : Int} {offs : Array Int} {len tgt : Nat} {x : Int32} (hd : decode cL_law pc = .ok (.tableswitch dflt lo hi offs, len)) (v : Int32) (i : Nat) (hv : v.toInt = lo + i) (hhi : v.toInt ≤ hi) (ho : offs[i]? = some off) (ht : (pc : Int) + off = (tgt : Int)) (ka : gl_G p l e s m below meth c b D tc ta tb Q tgt lv st wc wm) (kb : ¬ x = v → gl_G p l e s m below meth c b D tc ta tb Q pc lv (.int x :: st) wc wm) : gl_G p l e s m below meth c b D tc ta tb Q pc lv (.int x :: st) wc wm := by
  by_cases hxv : x = v
  · obtain ⟨⟨hx, hb, hml, hown, hts⟩, hr, hlk, ⟨hX, hbl, hL3⟩, hK, hSt, hNw⟩ := C
    subst hxv
    intro H locs ls hL hP hPm hwc hwm hS
    exact lv_tableIn hx hb hd (by omega) (by omega) (by rw [hv, show (lo + (i : Int) - lo).toNat = i by omega]; exact ho) ht (ka H locs ls hL hP hPm hwc hwm hS)
  · exact kb hxv
theorem gl_tabD (C : gl_C p s m meth c b L xs D tc ta tb) {dflt lo hi : Int} {offs : Array Int} {len tgt : Nat} {x : Int32} (hd : decode cL_law pc = .ok (.tableswitch dflt lo hi offs, len)) (ht : (pc : Int) + dflt = (tgt : Int)) (hout : x.toInt < lo ∨ hi < x.toInt) (k : gl_G p l e s m below meth c b D tc ta tb Q tgt lv st wc wm) : gl_G p l e s m below meth c b D tc ta tb Q pc lv (.int x :: st) wc wm := by
  obtain ⟨⟨hx, hb, hml, hown, hts⟩, hr, hlk, ⟨hX, hbl, hL3⟩, hK, hSt, hNw⟩ := C
  intro H locs ls hL hP hPm hwc hwm hS
  exact lv_tableOut hx hb hd hout ht (k H locs ls hL hP hPm hwc hwm hS)
theorem gl_arg (C : gl_C p s m meth c b L xs D tc ta tb) {i k0 : Nat} {n : Int} (h0 : decode cL_law pc = .ok (.aload_n 0, 1)) (h1 : decode cL_law (pc + 1) = .ok (.iload_n 3, 1)) (h2 : decode cL_law (pc + 2) = .ok (.iconst n, 1)) (h3 : decode cL_law (pc + 3) = .ok (.iadd, 1)) (h4 : decode cL_law (pc + 4) = .ok (.iaload, 1)) (hp : pc + 5 = pc') (hn : Int32.ofInt n = nI k0) (hi : i + 6 ≤ L) (hk : k0 < 6) (hl0 : lv[0]? = some (some (.ref b))) (hl3 : lv[3]? = some (some (.int (nI i)))) (k : gl_G p l e s m below meth c b D tc ta tb Q pc' lv (.int (xs (i + k0)) :: st) wc wm) : gl_G p l e s m below meth c b D tc ta tb Q pc lv st wc wm := by
  have hL3 := C.2.2.2.1.2.2
  refine gl_aload_n C (i := 0) rfl h0 rfl hl0 ?_
  refine gl_iload_n C (i := 3) rfl h1 rfl hl3 ?_
  refine gl_iconst C rfl h2 hn ?_
  refine gl_iadd C rfl h3 ?_
  rw [nI_add]
  refine gl_sld C hp h4 (vp_in_nI (by omega) (by omega)) ?_
  rw [nI_clamp (by omega)]
  exact k
theorem gl_callx (C : gl_C p s m meth c b L xs D tc ta tb) {dy : Nat} {y : MethodName} {cy : ByteArray} {ny n idx : Nat} {ry : Option FieldType} {As st0 : List Value} {r : Int32} {w1 : ab_W}
    (hp : pc + 3 = pc') (hd : decode cL_law pc = .ok (.invokevirtual idx, 3)) (hl : Cond.methodLink RL idx y ∈ gj_tb) (hY : gj_YC y cy ny ry n 9) (hM : gj_Mi y cy ny ry dy (.ref 0 :: As) wc r w1 ∧ ab_is wc 9 0 = true) (hl1 : w1.length = 65) (hR : dy ≤ 1000) (hAs : ∀ ad, As.map (ab_v ad) = As) (hst : st0 = As.reverse ++ .ref s.heap.size :: st) (hn : As.length = n) (hcat : (st.map fun v => v.category).sum ≤ 8)
    (k : gl_G p l e s m below meth c b D tc ta tb Q pc' lv (.int r :: st) w1 wm) : gl_G p l e s m below meth c b D tc ta tb Q pc lv st0 wc wm := by
  obtain ⟨⟨hx, hb, hml, hown, hts⟩, hr, hlk, ⟨hX, hbl, hL3⟩, hK, hSt, hNw⟩ := C
  subst hp
  subst hst
  obtain ⟨hY, T, N, hci⟩ := hY
  obtain ⟨M, hi⟩ := hM
  intro H locs ls hL hP hPm hwc hwm hS
  have hz78 : s.heap.size + 78 ≤ H.size := by
    have h9 := gl_P_lt (by omega) hPm (k := 12) (by omega)
    omega
  obtain ⟨fs, hfs⟩ := Option.isSome_iff_exists.mp (show (ab_obj wc 9 0).isSome = true from hi)
  have had0 : gl_ad s.heap.size ta tb 0 = s.heap.size := by simp [gl_ad]
  have hrec := va_recv hK hP hci (ab_x_get (ab_obj_some hfs))
  rw [had0] at hrec
  have hAA : ∀ q, gl_A1 s.heap.size q → (fun q : Nat => s.heap.size ≤ q) q := fun q h => by exact h.1
  have e1 : (As.reverse ++ Value.ref s.heap.size :: st).map (ab_v gl_id) = As.reverse ++ .ref s.heap.size :: st.map (ab_v gl_id) := by
    rw [List.map_append, List.map_reverse, hAs]; rfl
  rw [e1]
  have e2 : (Value.ref 0 :: As).map (ab_v (gl_ad s.heap.size ta tb)) = Value.ref s.heap.size :: As := by
    rw [List.map_cons, hAs]
    show Value.ref (gl_ad s.heap.size ta tb 0) :: As = _
    rw [had0]
  have M2 := M l D (gl_ad s.heap.size ta tb) tc (gl_A1 s.heap.size)
  rw [e2] at M2
  have cb : CallB room_1 s #[Value.ref b] RL idx y cy ny ry (gj_ws y cy ny ry) (gj_R dy) 0 0 n := by
    obtain ⟨g1, g2, g3, g4, g5⟩ := hY.1
    refine callB_of (ws' := gj_tb) n hts ?_ rfl rfl rfl (hts _ g2) (hts _ hl) ⟨g3.1, g3.2, g4⟩ ⟨?_, ?_⟩
    · intro w hw
      rcases List.mem_cons.mp hw with rfl | hw
      · exact gj_good _ g1
      · exact gj_good _ hw
    · show dy + 1 ≤ 2048
      omega
    · show 8 + (ny + 11) + 64 * dy ≤ 84000
      omega
  have hpre : ∀ U : State, U.heap = H → s.WarmedH U.vm → va_Pc (Value.ref s.heap.size :: As) (gj_B D (gl_ad s.heap.size ta tb) tc (gl_A1 s.heap.size) wc) (Value.ref s.heap.size :: As).toArray U := by
    intro U hU hW
    refine ⟨rfl, by rw [hU]; exact hP, va_K.moved hW.alike hK, gl_x_D (by omega) (fun k hk => ?_), fun q hq => ?_, ?_, va_Nw.warmF hW hNw⟩
    · exact ⟨by omega, Or.inl (by omega)⟩
    · rw [hU] at hq
      exact ⟨by omega, Or.inr (by omega)⟩
    · rw [hU]
      exact (gj_S.narrow (gl_S_ad (base' := s.heap.size) ((hSt.moved hW.alike).kept hS.2.1)) hAA)
  refine va_calli (va_runV (b := s.heap.size) (As := As) (rest := st.map (ab_v gl_id)) ⟨hx, hb, hml, hown, hts⟩ M2 ⟨cb, hts _ hY.2.1, hts _ hY.2.2⟩ ⟨gj_B.blind, hrec, hpre⟩ rfl hn hL.1 rfl (lv_room (by rw [List.map_map]; rw [show ((fun v => v.category) ∘ ab_v gl_id) = (fun v : Value => v.category) from funext (ab_v_cat gl_id)]; exact hcat)) hd ⟨by decide, by decide⟩) hS (fun q _ h => hAA q h) (fun q h => hAA q h) (fun r' u t H1 locs1 ht hvm hw hB hz1 hk1 hS1 => ?_)
  obtain ⟨rfl, rfl⟩ := hw
  obtain ⟨hP1, hD1⟩ := hB
  rw [ht] at hP1
  have hPk := gl_P_kept (H1 := H1) (by omega) hPm (fun k hk => hk1 _ (by have := gl_P_lt (by omega) hPm hk; omega) (by rintro ⟨-, h | h⟩ <;> omega))
  exact k H1 locs1 ls hL hP1 hPk hl1 hwm hS1
theorem gl_callm (C : gl_C p s m meth c b L xs D tc ta tb) {dy : Nat} {y : MethodName} {cy : ByteArray} {ny n idx : Nat} {ry : Option FieldType} {As st0 : List Value} {r : Int32} {w1 : ab_W}
    (hp : pc + 3 = pc') (hd : decode cL_law pc = .ok (.invokevirtual idx, 3)) (hl : Cond.methodLink RL idx y ∈ gj_tb) (hY : gj_YC y cy ny ry n 10) (hM : gj_Mi y cy ny ry dy (.ref 0 :: As) wm r w1 ∧ ab_is wm 10 0 = true) (hl1 : w1.length = 13) (hR : dy ≤ 1000) (hAs : ∀ ad, As.map (ab_v ad) = As) (hst : st0 = As.reverse ++ .ref (s.heap.size + 65) :: st) (hn : As.length = n) (hcat : (st.map fun v => v.category).sum ≤ 8)
    (k : gl_G p l e s m below meth c b D tc ta tb Q pc' lv (.int r :: st) wc w1) : gl_G p l e s m below meth c b D tc ta tb Q pc lv st0 wc wm := by
  obtain ⟨⟨hx, hb, hml, hown, hts⟩, hr, hlk, ⟨hX, hbl, hL3⟩, hK, hSt, hNw⟩ := C
  subst hp
  subst hst
  obtain ⟨hY, T, N, hci⟩ := hY
  obtain ⟨M, hi⟩ := hM
  intro H locs ls hL hP hPm hwc hwm hS
  have hz78 : s.heap.size + 78 ≤ H.size := by
    have h9 := gl_P_lt (by omega) hPm (k := 12) (by omega)
    omega
  obtain ⟨fs, hfs⟩ := Option.isSome_iff_exists.mp (show (ab_obj wm 10 0).isSome = true from hi)
  have had0 : gl_ad (s.heap.size + 65) ta tb 0 = (s.heap.size + 65) := by simp [gl_ad]
  have hrec := va_recv hK hPm hci (ab_x_get (ab_obj_some hfs))
  rw [had0] at hrec
  have hAA : ∀ q, gl_A2 s.heap.size q → (fun q : Nat => s.heap.size ≤ q) q := fun q h => by have h : s.heap.size + 65 ≤ q := h; show s.heap.size ≤ q; omega
  have e1 : (As.reverse ++ Value.ref (s.heap.size + 65) :: st).map (ab_v gl_id) = As.reverse ++ .ref (s.heap.size + 65) :: st.map (ab_v gl_id) := by
    rw [List.map_append, List.map_reverse, hAs]; rfl
  rw [e1]
  have e2 : (Value.ref 0 :: As).map (ab_v (gl_ad (s.heap.size + 65) ta tb)) = Value.ref (s.heap.size + 65) :: As := by
    rw [List.map_cons, hAs]
    show Value.ref (gl_ad (s.heap.size + 65) ta tb 0) :: As = _
    rw [had0]
  have M2 := M l D (gl_ad (s.heap.size + 65) ta tb) tc (gl_A2 s.heap.size)
  rw [e2] at M2
  have cb : CallB room_1 s #[Value.ref b] RL idx y cy ny ry (gj_ws y cy ny ry) (gj_R dy) 0 0 n := by
    obtain ⟨g1, g2, g3, g4, g5⟩ := hY.1
    refine callB_of (ws' := gj_tb) n hts ?_ rfl rfl rfl (hts _ g2) (hts _ hl) ⟨g3.1, g3.2, g4⟩ ⟨?_, ?_⟩
    · intro w hw
      rcases List.mem_cons.mp hw with rfl | hw
      · exact gj_good _ g1
      · exact gj_good _ hw
    · show dy + 1 ≤ 2048
      omega
    · show 8 + (ny + 11) + 64 * dy ≤ 84000
      omega
  have hpre : ∀ U : State, U.heap = H → s.WarmedH U.vm → va_Pc (Value.ref (s.heap.size + 65) :: As) (gj_B D (gl_ad (s.heap.size + 65) ta tb) tc (gl_A2 s.heap.size) wm) (Value.ref (s.heap.size + 65) :: As).toArray U := by
    intro U hU hW
    refine ⟨rfl, by rw [hU]; exact hPm, va_K.moved hW.alike hK, gl_x_D (by omega) (fun k hk => ?_), fun q hq => ?_, ?_, va_Nw.warmF hW hNw⟩
    · show s.heap.size + 65 ≤ s.heap.size + 65 + k; omega
    · rw [hU] at hq
      show s.heap.size + 65 ≤ q; omega
    · rw [hU]
      exact (gj_S.narrow (gl_S_ad (base' := (s.heap.size + 65)) ((hSt.moved hW.alike).kept hS.2.1)) hAA)
  refine va_calli (va_runV (b := (s.heap.size + 65)) (As := As) (rest := st.map (ab_v gl_id)) ⟨hx, hb, hml, hown, hts⟩ M2 ⟨cb, hts _ hY.2.1, hts _ hY.2.2⟩ ⟨gj_B.blind, hrec, hpre⟩ rfl hn hL.1 rfl (lv_room (by rw [List.map_map]; rw [show ((fun v => v.category) ∘ ab_v gl_id) = (fun v : Value => v.category) from funext (ab_v_cat gl_id)]; exact hcat)) hd ⟨by decide, by decide⟩) hS (fun q _ h => hAA q h) (fun q h => hAA q h) (fun r' u t H1 locs1 ht hvm hw hB hz1 hk1 hS1 => ?_)
  obtain ⟨rfl, rfl⟩ := hw
  obtain ⟨hP1, hD1⟩ := hB
  rw [ht] at hP1
  have hPk := gl_P_kept (H1 := H1) (by omega) hP (fun k hk => hk1 _ (by have := gl_P_lt (by omega) hP hk; omega) (by intro h; have h : s.heap.size + 65 ≤ s.heap.size + k := h; omega))
  exact k H1 locs1 ls hL hPk hP1 hwc hl1 hS1
end GL
