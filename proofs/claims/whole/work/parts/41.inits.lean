theorem wo_X3 : Cond.methodLink RX3 3 Lib.objectInit ∈ gj_tb := gj_in (List.mem_of_getElem? (i := 151) (by decide +kernel)) (by decide +kernel)
theorem w_obj : Cond.instanceMethod Lib.objectInit ∈ gj_tb ∧ Cond.code Lib.objectInit ⟨#[0xb1]⟩ 1 none ∈ gj_tb := ⟨gj_in (List.mem_of_getElem? (i := 75) (by decide +kernel)) (by decide +kernel), gj_in (List.mem_of_getElem? (i := 76) (by decide +kernel)) (by decide +kernel)⟩
theorem wm_X3_9 : Cond.methodLink RX3 9 yX3_lay ∈ gj_tb := gj_in (List.mem_of_getElem? (i := 152) (by decide +kernel)) (by decide +kernel)
theorem wo_X2 : Cond.methodLink RX2 3 Lib.objectInit ∈ gj_tb := gj_in (List.mem_of_getElem? (i := 198) (by decide +kernel)) (by decide +kernel)
theorem w_arrI : Cond.arrayClass .int ∈ gj_tb := gj_in (List.mem_of_getElem? (i := 97) (by decide +kernel)) (by decide +kernel)
theorem wo_X5 : Cond.methodLink RX5 3 Lib.objectInit ∈ gj_tb := gj_in (List.mem_of_getElem? (i := 83) (by decide +kernel)) (by decide +kernel)
theorem wo_X8 : Cond.methodLink RX8 3 Lib.objectInit ∈ gj_tb := gj_in (List.mem_of_getElem? (i := 340) (by decide +kernel)) (by decide +kernel)
theorem wo_X1 : Cond.methodLink RX1 3 Lib.objectInit ∈ gj_tb := gj_in (List.mem_of_getElem? (i := 267) (by decide +kernel)) (by decide +kernel)
theorem wo_X6 : Cond.methodLink RX6 3 Lib.objectInit ∈ gj_tb := gj_in (List.mem_of_getElem? (i := 103) (by decide +kernel)) (by decide +kernel)
theorem wm_X6_27 : Cond.methodLink RX6 27 yX6_layFlat ∈ gj_tb := gj_in (List.mem_of_getElem? (i := 104) (by decide +kernel)) (by decide +kernel)
set_option maxRecDepth 100000 in
theorem uX6_layFlat : gj_YC yX6_layFlat cX6_layFlat 8 none 1 6 := ⟨⟨⟨gj_in (List.mem_of_getElem? (i := 107) rfl) (by decide +kernel), gj_in (List.mem_of_getElem? (i := 56) (by decide +kernel)) (by decide +kernel), by decide +kernel, by decide +kernel, by decide⟩, gj_in (List.mem_of_getElem? (i := 106) (by decide +kernel)) (by decide +kernel), gj_in (List.mem_of_getElem? (i := 0) (by decide +kernel)) (by decide +kernel)⟩, TX6, 5, rfl⟩
theorem wo_X0 : Cond.methodLink RX0 3 Lib.objectInit ∈ gj_tb := gj_in (List.mem_of_getElem? (i := 142) (by decide +kernel)) (by decide +kernel)
theorem wc_X0_9 : Cond.classLink RX0 9 RX3 ∈ gj_tb := gj_in (List.mem_of_getElem? (i := 143) (by decide +kernel)) (by decide +kernel)
theorem wc_X0_21 : Cond.classLink RX0 21 RX2 ∈ gj_tb := gj_in (List.mem_of_getElem? (i := 145) (by decide +kernel)) (by decide +kernel)
theorem wn_X0_9 : Cond.classLink RX0 9 RX3 ∈ gj_tb ∧ Cond.instantiable RX3 6 ∈ gj_tb ∧ Cond.initialized RX3 ∈ gj_tb := ⟨gj_in (List.mem_of_getElem? (i := 143) (by decide +kernel)) (by decide +kernel), gj_in (List.mem_of_getElem? (i := 147) (by decide +kernel)) (by decide +kernel), gj_in (List.mem_of_getElem? (i := 60) (by decide +kernel)) (by decide +kernel)⟩
theorem wm_X0_30 : Cond.methodLink RX0 30 yX3_init ∈ gj_tb := gj_in (List.mem_of_getElem? (i := 148) (by decide +kernel)) (by decide +kernel)
set_option maxRecDepth 100000 in
theorem uX3_init : gj_Y yX3_init cX3_init 1 none 0 ∧ Cond.instanceMethod yX3_init ∈ gj_tb := ⟨⟨gj_in (List.mem_of_getElem? (i := 150) rfl) (by decide +kernel), gj_in (List.mem_of_getElem? (i := 60) (by decide +kernel)) (by decide +kernel), by decide +kernel, by decide +kernel, by decide⟩, gj_in (List.mem_of_getElem? (i := 149) (by decide +kernel)) (by decide +kernel)⟩
theorem wn_X0_21 : Cond.classLink RX0 21 RX2 ∈ gj_tb ∧ Cond.instantiable RX2 3 ∈ gj_tb ∧ Cond.initialized RX2 ∈ gj_tb := ⟨gj_in (List.mem_of_getElem? (i := 145) (by decide +kernel)) (by decide +kernel), gj_in (List.mem_of_getElem? (i := 194) (by decide +kernel)) (by decide +kernel), gj_in (List.mem_of_getElem? (i := 61) (by decide +kernel)) (by decide +kernel)⟩
theorem wm_X0_31 : Cond.methodLink RX0 31 yX2_init ∈ gj_tb := gj_in (List.mem_of_getElem? (i := 195) (by decide +kernel)) (by decide +kernel)
set_option maxRecDepth 100000 in
theorem uX2_init : gj_Y yX2_init cX2_init 1 none 0 ∧ Cond.instanceMethod yX2_init ∈ gj_tb := ⟨⟨gj_in (List.mem_of_getElem? (i := 197) rfl) (by decide +kernel), gj_in (List.mem_of_getElem? (i := 61) (by decide +kernel)) (by decide +kernel), by decide +kernel, by decide +kernel, by decide⟩, gj_in (List.mem_of_getElem? (i := 196) (by decide +kernel)) (by decide +kernel)⟩
theorem wo_X7 : Cond.methodLink RX7 3 Lib.objectInit ∈ gj_tb := gj_in (List.mem_of_getElem? (i := 261) (by decide +kernel)) (by decide +kernel)
theorem wn_X7_9 : Cond.classLink RX7 9 RX1 ∈ gj_tb ∧ Cond.instantiable RX1 5 ∈ gj_tb ∧ Cond.initialized RX1 ∈ gj_tb := ⟨gj_in (List.mem_of_getElem? (i := 262) (by decide +kernel)) (by decide +kernel), gj_in (List.mem_of_getElem? (i := 263) (by decide +kernel)) (by decide +kernel), gj_in (List.mem_of_getElem? (i := 63) (by decide +kernel)) (by decide +kernel)⟩
theorem wm_X7_11 : Cond.methodLink RX7 11 yX1_init ∈ gj_tb := gj_in (List.mem_of_getElem? (i := 264) (by decide +kernel)) (by decide +kernel)
set_option maxRecDepth 100000 in
theorem uX1_init : gj_Y yX1_init cX1_init 1 none 0 ∧ Cond.instanceMethod yX1_init ∈ gj_tb := ⟨⟨gj_in (List.mem_of_getElem? (i := 266) rfl) (by decide +kernel), gj_in (List.mem_of_getElem? (i := 63) (by decide +kernel)) (by decide +kernel), by decide +kernel, by decide +kernel, by decide⟩, gj_in (List.mem_of_getElem? (i := 265) (by decide +kernel)) (by decide +kernel)⟩
theorem wo_X4 : Cond.methodLink RX4 3 Lib.objectInit ∈ gj_tb := gj_in (List.mem_of_getElem? (i := 314) (by decide +kernel)) (by decide +kernel)
theorem wn_X4_9 : Cond.classLink RX4 9 RX2 ∈ gj_tb ∧ Cond.instantiable RX2 3 ∈ gj_tb ∧ Cond.initialized RX2 ∈ gj_tb := ⟨gj_in (List.mem_of_getElem? (i := 315) (by decide +kernel)) (by decide +kernel), gj_in (List.mem_of_getElem? (i := 194) (by decide +kernel)) (by decide +kernel), gj_in (List.mem_of_getElem? (i := 61) (by decide +kernel)) (by decide +kernel)⟩
theorem wm_X4_11 : Cond.methodLink RX4 11 yX2_init ∈ gj_tb := gj_in (List.mem_of_getElem? (i := 316) (by decide +kernel)) (by decide +kernel)
theorem wo_X9 : Cond.methodLink RX9 1 Lib.objectInit ∈ gj_tb := gj_in (List.mem_of_getElem? (i := 74) (by decide +kernel)) (by decide +kernel)
theorem wc_X9_13 : Cond.classLink RX9 13 RX5 ∈ gj_tb := gj_in (List.mem_of_getElem? (i := 77) (by decide +kernel)) (by decide +kernel)
theorem wn_X9_13 : Cond.classLink RX9 13 RX5 ∈ gj_tb ∧ Cond.instantiable RX5 3 ∈ gj_tb ∧ Cond.initialized RX5 ∈ gj_tb := ⟨gj_in (List.mem_of_getElem? (i := 77) (by decide +kernel)) (by decide +kernel), gj_in (List.mem_of_getElem? (i := 79) (by decide +kernel)) (by decide +kernel), gj_in (List.mem_of_getElem? (i := 55) (by decide +kernel)) (by decide +kernel)⟩
theorem wm_X9_19 : Cond.methodLink RX9 19 yX5_init ∈ gj_tb := gj_in (List.mem_of_getElem? (i := 80) (by decide +kernel)) (by decide +kernel)
set_option maxRecDepth 100000 in
theorem uX5_init : gj_Y yX5_init cX5_init 1 none 0 ∧ Cond.instanceMethod yX5_init ∈ gj_tb := ⟨⟨gj_in (List.mem_of_getElem? (i := 82) rfl) (by decide +kernel), gj_in (List.mem_of_getElem? (i := 55) (by decide +kernel)) (by decide +kernel), by decide +kernel, by decide +kernel, by decide⟩, gj_in (List.mem_of_getElem? (i := 81) (by decide +kernel)) (by decide +kernel)⟩
theorem wn_X9_20 : Cond.classLink RX9 20 RX6 ∈ gj_tb ∧ Cond.instantiable RX6 5 ∈ gj_tb ∧ Cond.initialized RX6 ∈ gj_tb := ⟨gj_in (List.mem_of_getElem? (i := 98) (by decide +kernel)) (by decide +kernel), gj_in (List.mem_of_getElem? (i := 99) (by decide +kernel)) (by decide +kernel), gj_in (List.mem_of_getElem? (i := 56) (by decide +kernel)) (by decide +kernel)⟩
theorem wm_X9_22 : Cond.methodLink RX9 22 yX6_init ∈ gj_tb := gj_in (List.mem_of_getElem? (i := 100) (by decide +kernel)) (by decide +kernel)
set_option maxRecDepth 100000 in
theorem uX6_init : gj_Y yX6_init cX6_init 2 none 0 ∧ Cond.instanceMethod yX6_init ∈ gj_tb := ⟨⟨gj_in (List.mem_of_getElem? (i := 102) rfl) (by decide +kernel), gj_in (List.mem_of_getElem? (i := 56) (by decide +kernel)) (by decide +kernel), by decide +kernel, by decide +kernel, by decide⟩, gj_in (List.mem_of_getElem? (i := 101) (by decide +kernel)) (by decide +kernel)⟩
theorem wn_X9_27 : Cond.classLink RX9 27 RX0 ∈ gj_tb ∧ Cond.instantiable RX0 10 ∈ gj_tb ∧ Cond.initialized RX0 ∈ gj_tb := ⟨gj_in (List.mem_of_getElem? (i := 137) (by decide +kernel)) (by decide +kernel), gj_in (List.mem_of_getElem? (i := 138) (by decide +kernel)) (by decide +kernel), gj_in (List.mem_of_getElem? (i := 59) (by decide +kernel)) (by decide +kernel)⟩
theorem wm_X9_29 : Cond.methodLink RX9 29 yX0_init ∈ gj_tb := gj_in (List.mem_of_getElem? (i := 139) (by decide +kernel)) (by decide +kernel)
set_option maxRecDepth 100000 in
theorem uX0_init : gj_Y yX0_init cX0_init 2 none 0 ∧ Cond.instanceMethod yX0_init ∈ gj_tb := ⟨⟨gj_in (List.mem_of_getElem? (i := 141) rfl) (by decide +kernel), gj_in (List.mem_of_getElem? (i := 59) (by decide +kernel)) (by decide +kernel), by decide +kernel, by decide +kernel, by decide⟩, gj_in (List.mem_of_getElem? (i := 140) (by decide +kernel)) (by decide +kernel)⟩
theorem wn_X9_37 : Cond.classLink RX9 37 RX7 ∈ gj_tb ∧ Cond.instantiable RX7 6 ∈ gj_tb ∧ Cond.initialized RX7 ∈ gj_tb := ⟨gj_in (List.mem_of_getElem? (i := 256) (by decide +kernel)) (by decide +kernel), gj_in (List.mem_of_getElem? (i := 257) (by decide +kernel)) (by decide +kernel), gj_in (List.mem_of_getElem? (i := 62) (by decide +kernel)) (by decide +kernel)⟩
theorem wm_X9_39 : Cond.methodLink RX9 39 yX7_init ∈ gj_tb := gj_in (List.mem_of_getElem? (i := 258) (by decide +kernel)) (by decide +kernel)
set_option maxRecDepth 100000 in
theorem uX7_init : gj_Y yX7_init cX7_init 1 none 0 ∧ Cond.instanceMethod yX7_init ∈ gj_tb := ⟨⟨gj_in (List.mem_of_getElem? (i := 260) rfl) (by decide +kernel), gj_in (List.mem_of_getElem? (i := 62) (by decide +kernel)) (by decide +kernel), by decide +kernel, by decide +kernel, by decide⟩, gj_in (List.mem_of_getElem? (i := 259) (by decide +kernel)) (by decide +kernel)⟩
theorem wn_X9_44 : Cond.classLink RX9 44 RX4 ∈ gj_tb ∧ Cond.instantiable RX4 5 ∈ gj_tb ∧ Cond.initialized RX4 ∈ gj_tb := ⟨gj_in (List.mem_of_getElem? (i := 309) (by decide +kernel)) (by decide +kernel), gj_in (List.mem_of_getElem? (i := 310) (by decide +kernel)) (by decide +kernel), gj_in (List.mem_of_getElem? (i := 64) (by decide +kernel)) (by decide +kernel)⟩
theorem wm_X9_46 : Cond.methodLink RX9 46 yX4_init ∈ gj_tb := gj_in (List.mem_of_getElem? (i := 311) (by decide +kernel)) (by decide +kernel)
set_option maxRecDepth 100000 in
theorem uX4_init : gj_Y yX4_init cX4_init 1 none 0 ∧ Cond.instanceMethod yX4_init ∈ gj_tb := ⟨⟨gj_in (List.mem_of_getElem? (i := 313) rfl) (by decide +kernel), gj_in (List.mem_of_getElem? (i := 64) (by decide +kernel)) (by decide +kernel), by decide +kernel, by decide +kernel, by decide⟩, gj_in (List.mem_of_getElem? (i := 312) (by decide +kernel)) (by decide +kernel)⟩
theorem wn_X9_51 : Cond.classLink RX9 51 RX8 ∈ gj_tb ∧ Cond.instantiable RX8 5 ∈ gj_tb ∧ Cond.initialized RX8 ∈ gj_tb := ⟨gj_in (List.mem_of_getElem? (i := 335) (by decide +kernel)) (by decide +kernel), gj_in (List.mem_of_getElem? (i := 336) (by decide +kernel)) (by decide +kernel), gj_in (List.mem_of_getElem? (i := 65) (by decide +kernel)) (by decide +kernel)⟩
theorem wm_X9_53 : Cond.methodLink RX9 53 yX8_init ∈ gj_tb := gj_in (List.mem_of_getElem? (i := 337) (by decide +kernel)) (by decide +kernel)
set_option maxRecDepth 100000 in
theorem uX8_init : gj_Y yX8_init cX8_init 1 none 0 ∧ Cond.instanceMethod yX8_init ∈ gj_tb := ⟨⟨gj_in (List.mem_of_getElem? (i := 339) rfl) (by decide +kernel), gj_in (List.mem_of_getElem? (i := 65) (by decide +kernel)) (by decide +kernel), by decide +kernel, by decide +kernel, by decide⟩, gj_in (List.mem_of_getElem? (i := 338) (by decide +kernel)) (by decide +kernel)⟩
theorem wo_X10 : Cond.methodLink RX10 1 Lib.objectInit ∈ gj_tb := gj_in (List.mem_of_getElem? (i := 850) (by decide +kernel)) (by decide +kernel)
def ab_al {α : Type} (w : ab_W) (e : ab_E) (f : ab_W → Option α) : Option α := f (w ++ [e])
theorem ab_al_h {α : Type} {w : ab_W} {e : ab_E} {f : ab_W → Option α} {r : α} (h : ab_al w e f = some r) : f (w ++ [e]) = some r := h
theorem ab_is_pos {w : ab_W} {c o : Nat} (h : ab_is w c o = true) : 0 < w.length := by
  obtain ⟨fs, hfs⟩ := Option.isSome_iff_exists.mp (show (ab_obj w c o).isSome = true from h)
  have := (List.getElem?_eq_some_iff.mp (ab_obj_some hfs)).1
  omega
theorem gn_drop {p : Program} {l : Launch} {e : Env} {R : Room} {s : State} {m : MethodId} {args : Array Value} {below : List Frame} {meth : Method} {c : Code} {D : va_G} {ad : Nat → Nat} {tc : Nat → ClassId} {A : Nat → Prop} {nL n0 cells slots : Nat} {Q : State → Prop} {pc : Nat} {lv lv' : List (Option Value)} {st : List Value} {w : ab_W} (hl : gj_le lv' lv) (k : gn_G p l e R s m args below meth c D ad tc A nL n0 cells slots Q pc lv' st w) : gn_G p l e R s m args below meth c D ad tc A nL n0 cells slots Q pc lv st w :=
  fun H locs ls hL hP hD hS hz => k H locs ls ⟨hL.1, hL.2.1, fun i v h => hL.2.2 i v (gj_le_get hl i v h)⟩ hP hD hS hz
theorem ln_put {w w1 : ab_W} {c o k : Nat} {v : Value} (h : ab_put w c o k v = some w1) : w1.length = w.length := by
  obtain ⟨fs, -, -, rfl⟩ := ab_put_some h
  exact List.length_set
theorem ln_putZ {w w1 : ab_W} {c o k : Nat} {v : Int32} (h : ab_putZ w c o k v = some w1) : w1.length = w.length := by
  unfold ab_putZ at h
  split at h
  · exact ln_put h
  · cases h
theorem ln_ast {w w1 : ab_W} {a : Nat} {i x : Int32} (h : ab_ast w a i x = some w1) : w1.length = w.length := by
  obtain ⟨n, f, -, -, rfl⟩ := ab_ast_some h
  exact List.length_set
theorem ln_X3_lay {x0 : Nat} {x1 x2 : Int32} {w w1 : ab_W} (h : sX3_lay x0 x1 x2 w = some w1) : w1.length = w.length := by
  unfold sX3_lay at h
  obtain ⟨-, h⟩ := ab_ite h
  obtain ⟨v1, -, h⟩ := ab_bd h
  obtain ⟨w2, e2, h⟩ := ab_bd h
  obtain ⟨v3, -, h⟩ := ab_bd h
  obtain ⟨w4, e4, h⟩ := ab_bd h
  obtain ⟨w5, e5, h⟩ := ab_bd h
  obtain ⟨w6, e6, h⟩ := ab_bd h
  obtain ⟨w7, e7, h⟩ := ab_bd h
  obtain ⟨w8, e8, h⟩ := ab_bd h
  cases h
  rw [ln_put e8, ln_putZ e7, ln_put e6, ln_put e5, ln_put e4, ln_put e2]
theorem ln_J7_fill_53178_5 : ∀ {n : Nat} {x0 : Nat} {x1 x2 x3 : Int32} {w w1 : ab_W}, sJ7_fill_53178_5 n x0 x1 x2 x3 w = some w1 → w1.length = w.length := by
  intro n
  induction n with
  | zero => intros; rename_i h; cases h
  | succ n ih =>
    intro x0 x1 x2 x3 w w1 h
    rw [sJ7_fill_53178_5] at h
    split at h
    · obtain ⟨w2, e2, h⟩ := ab_bd h
      rw [ih h, ln_ast e2]
    · cases h; rfl
theorem ln_J7_fill_53178 {x0 : Nat} {x1 : Int32} {w w1 : ab_W} (h : sJ7_fill_53178 x0 x1 w = some w1) : w1.length = w.length := by
  unfold sJ7_fill_53178 at h
  obtain ⟨v, -, h⟩ := ab_bd h
  exact ln_J7_fill_53178_5 h
theorem ln_X6_layFlat_64 {k : Nat → Int32 → Int32 → Int32 → Int32 → Int32 → Int32 → Int32 → ab_W → Option (ab_W)} (hk : ∀ {x0 x1 x2 x3 x4 x5 x6 x7 w w1}, k x0 x1 x2 x3 x4 x5 x6 x7 w = some w1 → w1.length = w.length) {x0 x1 x2 x3 x4 x5 x6 x7} {w w1 : ab_W} (h : sX6_layFlat_64 k x0 x1 x2 x3 x4 x5 x6 x7 w = some w1) : w1.length = w.length := by
  unfold sX6_layFlat_64 at h
  split at h
  · exact hk h
  · obtain ⟨v1, -, h⟩ := ab_bd h
    obtain ⟨v2, -, h⟩ := ab_bd h
    split at h
    · obtain ⟨v3, -, h⟩ := ab_bd h
      obtain ⟨v4, -, h⟩ := ab_bd h
      obtain ⟨w5, e5, h⟩ := ab_bd h
      obtain ⟨v6, -, h⟩ := ab_bd h
      obtain ⟨v7, -, h⟩ := ab_bd h
      rw [hk h, ln_ast e5]
    · exact hk h
theorem ln_X6_layFlat_55 {k : Nat → Int32 → Int32 → Int32 → Int32 → Int32 → Int32 → Int32 → ab_W → Option (ab_W)} (hk : ∀ {x0 x1 x2 x3 x4 x5 x6 x7 w w1}, k x0 x1 x2 x3 x4 x5 x6 x7 w = some w1 → w1.length = w.length) {x0 x1 x2 x3 x4 x5 x6 x7} {w w1 : ab_W} (h : sX6_layFlat_55 k x0 x1 x2 x3 x4 x5 x6 x7 w = some w1) : w1.length = w.length := by
  unfold sX6_layFlat_55 at h
  split at h
  · exact ln_X6_layFlat_64 hk h
  · exact ln_X6_layFlat_64 hk h
theorem ln_X6_layFlat_25 : ∀ {n : Nat} {x0 x1 x2 x3 x4 x5 x6 x7} {w w1 : ab_W}, sX6_layFlat_25 n x0 x1 x2 x3 x4 x5 x6 x7 w = some w1 → w1.length = w.length := by
  intro n
  induction n with
  | zero => intros; rename_i h; cases h
  | succ n ih =>
    intro x0 x1 x2 x3 x4 x5 x6 x7 w w1 h
    rw [sX6_layFlat_25] at h
    split at h
    · split at h
      · split at h
        · exact ln_X6_layFlat_64 ih h
        · exact ln_X6_layFlat_55 ih h
      · exact ln_X6_layFlat_55 ih h
    · obtain ⟨v1, -, h⟩ := ab_bd h
      obtain ⟨w2, e2, h⟩ := ab_bd h
      obtain ⟨v3, -, h⟩ := ab_bd h
      obtain ⟨w4, e4, h⟩ := ab_bd h
      cases h
      rw [ln_ast e4, ln_ast e2]
theorem ln_X6_layFlat {x0 : Nat} {x1 : Int32} {w w1 : ab_W} (h : sX6_layFlat x0 x1 w = some w1) : w1.length = w.length := by
  unfold sX6_layFlat at h
  obtain ⟨-, h⟩ := ab_ite h
  obtain ⟨v1, -, h⟩ := ab_bd h
  obtain ⟨w2, e2, h⟩ := ab_bd h
  rw [ln_X6_layFlat_25 h, ln_J7_fill_53178 e2]

def sX3_init (x0 : Nat) (w : ab_W) : Option ab_W :=
  if ab_is w 3 x0 = true then
    (sX3_lay x0 0 0 w).bind fun w1 =>
    some w1
  else none
set_option maxHeartbeats 4000000 in
set_option maxRecDepth 100000 in
theorem kX3_init : ∀ (x0 : Nat) (w : ab_W) (w1 : ab_W), sX3_init x0 w = some w1 → gn_M yX3_init cX3_init 1 1 800 0 0 [.ref x0] w w1 := by
  intro x0 w w1 h
  unfold sX3_init at h
  obtain ⟨hi, h⟩ := ab_ite h
  refine gn_M_of RX3 [some (.ref x0)] (ab_is_pos hi) (by decide) (by decide +kernel) rfl rfl (Nat.le_of_ble_eq_true rfl) rfl (fun p l e s m args below meth c D ad tc A base n0 hn0 C => ?_)
  refine gn_aload_n C (pc' := 1) (i := 0) rfl dX3_init_0 rfl rfl ?_
  refine gn_objInit C (pc' := 4) ⟨Nat.le_of_ble_eq_true rfl, Nat.le_of_ble_eq_true rfl⟩ rfl dX3_init_1 wo_X3 w_obj rfl ?_
  refine gn_aload_n C (pc' := 5) (i := 0) rfl dX3_init_4 rfl rfl ?_
  refine gn_iconst C (pc' := 6) (v := 0) rfl dX3_init_5 (by decide) ?_
  refine gn_iconst C (pc' := 7) (v := 0) rfl dX3_init_6 (by decide) ?_
  refine gn_callVv C (pc' := 10) rfl dX3_init_7 wm_X3_9 uX3_lay h (kX3_lay _ _ _ _) (fun w9 h9 => ln_X3_lay h9) (by decide) rfl rfl (by decide) (by decide) (Nat.le_of_ble_eq_true rfl) (fun w1 h => ?_)
  exact gn_vret C dX3_init_10 h
def sX2_init (x0 : Nat) (w : ab_W) : Option ab_W :=
  if ab_is w 2 x0 = true then
    ab_al w (.inl (0, 50, .inl (fun _ => 0))) fun w1 =>
    (ab_putR w1 2 x0 0 (List.length w)).bind fun w2 =>
    ab_al w2 (.inl (0, 50, .inl (fun _ => 0))) fun w3 =>
    (ab_putR w3 2 x0 1 (List.length w2)).bind fun w4 =>
    (ab_putI w4 2 x0 2 0).bind fun w5 =>
    some w5
  else none
set_option maxHeartbeats 4000000 in
set_option maxRecDepth 100000 in
theorem kX2_init : ∀ (x0 : Nat) (w : ab_W) (w1 : ab_W), sX2_init x0 w = some w1 → gn_M yX2_init cX2_init 1 1 800 2 100 [.ref x0] w w1 := by
  intro x0 w w1 h
  unfold sX2_init at h
  obtain ⟨hi, h⟩ := ab_ite h
  refine gn_M_of RX2 [some (.ref x0)] (ab_is_pos hi) (by decide) (by decide +kernel) rfl rfl (Nat.le_of_ble_eq_true rfl) rfl (fun p l e s m args below meth c D ad tc A base n0 hn0 C => ?_)
  refine gn_aload_n C (pc' := 1) (i := 0) rfl dX2_init_0 rfl rfl ?_
  refine gn_objInit C (pc' := 4) ⟨Nat.le_of_ble_eq_true rfl, Nat.le_of_ble_eq_true rfl⟩ rfl dX2_init_1 wo_X2 w_obj rfl ?_
  refine gn_aload_n C (pc' := 5) (i := 0) rfl dX2_init_4 rfl rfl ?_
  refine gn_bipush C (pc' := 7) (v := 50) rfl dX2_init_5 (by decide) ?_
  refine gn_newa C (pc' := 9) (N := 50) rfl dX2_init_7 w_arrI (by decide) (by decide) (by decide) (by decide) (by decide) (by decide) ?_
  have h := ab_al_h h
  refine gn_putF C (pc' := 12) (ty := .array .int) rfl dX2_init_9 wf_X2_9 ⟨⟨tyX2, tyX2_ok⟩, nmX2, rfl⟩ rfl (fun _ => rfl) (by decide +kernel) h (fun w2 h => ?_)
  refine gn_aload_n C (pc' := 13) (i := 0) rfl dX2_init_12 rfl rfl ?_
  refine gn_bipush C (pc' := 15) (v := 50) rfl dX2_init_13 (by decide) ?_
  refine gn_newa C (pc' := 17) (N := 50) rfl dX2_init_15 w_arrI (by decide) (by decide) (by decide) (by decide) (by decide) (by decide) ?_
  have h := ab_al_h h
  refine gn_putF C (pc' := 20) (ty := .array .int) rfl dX2_init_17 wf_X2_15 ⟨⟨tyX2, tyX2_ok⟩, nmX2, rfl⟩ rfl (fun _ => rfl) (by decide +kernel) h (fun w4 h => ?_)
  refine gn_aload_n C (pc' := 21) (i := 0) rfl dX2_init_20 rfl rfl ?_
  refine gn_iconst C (pc' := 22) (v := 0) rfl dX2_init_21 (by decide) ?_
  refine gn_putI C (pc' := 25) (ty := .int) rfl dX2_init_22 wf_X2_18 wp_X2_2 rfl h (fun w5 h => ?_)
  exact gn_vret C dX2_init_25 h
def sX5_init (x0 : Nat) (w : ab_W) : Option ab_W :=
  if ab_is w 5 x0 = true then
    ab_al w (.inl (0, 40, .inl (fun _ => 0))) fun w1 =>
    (ab_putR w1 5 x0 0 (List.length w)).bind fun w2 =>
    (ab_putI w2 5 x0 1 0).bind fun w3 =>
    (ab_putI w3 5 x0 2 0).bind fun w4 =>
    some w4
  else none
set_option maxHeartbeats 4000000 in
set_option maxRecDepth 100000 in
theorem kX5_init : ∀ (x0 : Nat) (w : ab_W) (w1 : ab_W), sX5_init x0 w = some w1 → gn_M yX5_init cX5_init 1 1 800 1 40 [.ref x0] w w1 := by
  intro x0 w w1 h
  unfold sX5_init at h
  obtain ⟨hi, h⟩ := ab_ite h
  refine gn_M_of RX5 [some (.ref x0)] (ab_is_pos hi) (by decide) (by decide +kernel) rfl rfl (Nat.le_of_ble_eq_true rfl) rfl (fun p l e s m args below meth c D ad tc A base n0 hn0 C => ?_)
  refine gn_aload_n C (pc' := 1) (i := 0) rfl dX5_init_0 rfl rfl ?_
  refine gn_objInit C (pc' := 4) ⟨Nat.le_of_ble_eq_true rfl, Nat.le_of_ble_eq_true rfl⟩ rfl dX5_init_1 wo_X5 w_obj rfl ?_
  refine gn_aload_n C (pc' := 5) (i := 0) rfl dX5_init_4 rfl rfl ?_
  refine gn_bipush C (pc' := 7) (v := 40) rfl dX5_init_5 (by decide) ?_
  refine gn_newa C (pc' := 9) (N := 40) rfl dX5_init_7 w_arrI (by decide) (by decide) (by decide) (by decide) (by decide) (by decide) ?_
  have h := ab_al_h h
  refine gn_putF C (pc' := 12) (ty := .array .int) rfl dX5_init_9 wf_X5_9 ⟨⟨tyX5, tyX5_ok⟩, nmX5, rfl⟩ rfl (fun _ => rfl) (by decide +kernel) h (fun w2 h => ?_)
  refine gn_aload_n C (pc' := 13) (i := 0) rfl dX5_init_12 rfl rfl ?_
  refine gn_iconst C (pc' := 14) (v := 0) rfl dX5_init_13 (by decide) ?_
  refine gn_putI C (pc' := 17) (ty := .int) rfl dX5_init_14 wf_X5_15 wp_X5_1 rfl h (fun w3 h => ?_)
  refine gn_aload_n C (pc' := 18) (i := 0) rfl dX5_init_17 rfl rfl ?_
  refine gn_iconst C (pc' := 19) (v := 0) rfl dX5_init_18 (by decide) ?_
  refine gn_putI C (pc' := 22) (ty := .int) rfl dX5_init_19 wf_X5_19 wp_X5_2 rfl h (fun w4 h => ?_)
  exact gn_vret C dX5_init_22 h
def sX8_init (x0 : Nat) (w : ab_W) : Option ab_W :=
  if ab_is w 8 x0 = true then
    ab_al w (.inl (0, 40, .inl (fun _ => 0))) fun w1 =>
    (ab_putR w1 8 x0 0 (List.length w)).bind fun w2 =>
    (ab_putI w2 8 x0 1 0).bind fun w3 =>
    (ab_putI w3 8 x0 2 0).bind fun w4 =>
    (ab_putI w4 8 x0 3 0).bind fun w5 =>
    (ab_putI w5 8 x0 4 0).bind fun w6 =>
    some w6
  else none
set_option maxHeartbeats 4000000 in
set_option maxRecDepth 100000 in
theorem kX8_init : ∀ (x0 : Nat) (w : ab_W) (w1 : ab_W), sX8_init x0 w = some w1 → gn_M yX8_init cX8_init 1 1 800 1 40 [.ref x0] w w1 := by
  intro x0 w w1 h
  unfold sX8_init at h
  obtain ⟨hi, h⟩ := ab_ite h
  refine gn_M_of RX8 [some (.ref x0)] (ab_is_pos hi) (by decide) (by decide +kernel) rfl rfl (Nat.le_of_ble_eq_true rfl) rfl (fun p l e s m args below meth c D ad tc A base n0 hn0 C => ?_)
  refine gn_aload_n C (pc' := 1) (i := 0) rfl dX8_init_0 rfl rfl ?_
  refine gn_objInit C (pc' := 4) ⟨Nat.le_of_ble_eq_true rfl, Nat.le_of_ble_eq_true rfl⟩ rfl dX8_init_1 wo_X8 w_obj rfl ?_
  refine gn_aload_n C (pc' := 5) (i := 0) rfl dX8_init_4 rfl rfl ?_
  refine gn_bipush C (pc' := 7) (v := 40) rfl dX8_init_5 (by decide) ?_
  refine gn_newa C (pc' := 9) (N := 40) rfl dX8_init_7 w_arrI (by decide) (by decide) (by decide) (by decide) (by decide) (by decide) ?_
  have h := ab_al_h h
  refine gn_putF C (pc' := 12) (ty := .array .int) rfl dX8_init_9 wf_X8_9 ⟨⟨tyX8, tyX8_ok⟩, nmX8, rfl⟩ rfl (fun _ => rfl) (by decide +kernel) h (fun w2 h => ?_)
  refine gn_aload_n C (pc' := 13) (i := 0) rfl dX8_init_12 rfl rfl ?_
  refine gn_iconst C (pc' := 14) (v := 0) rfl dX8_init_13 (by decide) ?_
  refine gn_putI C (pc' := 17) (ty := .int) rfl dX8_init_14 wf_X8_15 wp_X8_1 rfl h (fun w3 h => ?_)
  refine gn_aload_n C (pc' := 18) (i := 0) rfl dX8_init_17 rfl rfl ?_
  refine gn_iconst C (pc' := 19) (v := 0) rfl dX8_init_18 (by decide) ?_
  refine gn_putI C (pc' := 22) (ty := .int) rfl dX8_init_19 wf_X8_19 wp_X8_2 rfl h (fun w4 h => ?_)
  refine gn_aload_n C (pc' := 23) (i := 0) rfl dX8_init_22 rfl rfl ?_
  refine gn_iconst C (pc' := 24) (v := 0) rfl dX8_init_23 (by decide) ?_
  refine gn_putI C (pc' := 27) (ty := .int) rfl dX8_init_24 wf_X8_22 wp_X8_3 rfl h (fun w5 h => ?_)
  refine gn_aload_n C (pc' := 28) (i := 0) rfl dX8_init_27 rfl rfl ?_
  refine gn_iconst C (pc' := 29) (v := 0) rfl dX8_init_28 (by decide) ?_
  refine gn_putI C (pc' := 32) (ty := .int) rfl dX8_init_29 wf_X8_25 wp_X8_4 rfl h (fun w6 h => ?_)
  exact gn_vret C dX8_init_32 h
def sX1_init (x0 : Nat) (w : ab_W) : Option ab_W :=
  if ab_is w 1 x0 = true then
    (ab_putI w 1 x0 0 0).bind fun w1 =>
    (ab_putI w1 1 x0 1 0).bind fun w2 =>
    (ab_putZ w2 1 x0 2 0).bind fun w3 =>
    (ab_putZ w3 1 x0 3 0).bind fun w4 =>
    (ab_putI w4 1 x0 4 0).bind fun w5 =>
    some w5
  else none
set_option maxHeartbeats 4000000 in
set_option maxRecDepth 100000 in
theorem kX1_init : ∀ (x0 : Nat) (w : ab_W) (w1 : ab_W), sX1_init x0 w = some w1 → gn_M yX1_init cX1_init 1 1 800 0 0 [.ref x0] w w1 := by
  intro x0 w w1 h
  unfold sX1_init at h
  obtain ⟨hi, h⟩ := ab_ite h
  refine gn_M_of RX1 [some (.ref x0)] (ab_is_pos hi) (by decide) (by decide +kernel) rfl rfl (Nat.le_of_ble_eq_true rfl) rfl (fun p l e s m args below meth c D ad tc A base n0 hn0 C => ?_)
  refine gn_aload_n C (pc' := 1) (i := 0) rfl dX1_init_0 rfl rfl ?_
  refine gn_objInit C (pc' := 4) ⟨Nat.le_of_ble_eq_true rfl, Nat.le_of_ble_eq_true rfl⟩ rfl dX1_init_1 wo_X1 w_obj rfl ?_
  refine gn_aload_n C (pc' := 5) (i := 0) rfl dX1_init_4 rfl rfl ?_
  refine gn_iconst C (pc' := 6) (v := 0) rfl dX1_init_5 (by decide) ?_
  refine gn_putI C (pc' := 9) (ty := .int) rfl dX1_init_6 wf_X1_9 wp_X1_0 rfl h (fun w1 h => ?_)
  refine gn_aload_n C (pc' := 10) (i := 0) rfl dX1_init_9 rfl rfl ?_
  refine gn_iconst C (pc' := 11) (v := 0) rfl dX1_init_10 (by decide) ?_
  refine gn_putI C (pc' := 14) (ty := .int) rfl dX1_init_11 wf_X1_15 wp_X1_1 rfl h (fun w2 h => ?_)
  refine gn_aload_n C (pc' := 15) (i := 0) rfl dX1_init_14 rfl rfl ?_
  refine gn_iconst C (pc' := 16) (v := 0) rfl dX1_init_15 (by decide) ?_
  refine gn_putZ C (pc' := 19) (ty := .int) rfl dX1_init_16 wf_X1_18 wp_X1_2 rfl h (fun w3 h => ?_)
  refine gn_aload_n C (pc' := 20) (i := 0) rfl dX1_init_19 rfl rfl ?_
  refine gn_iconst C (pc' := 21) (v := 0) rfl dX1_init_20 (by decide) ?_
  refine gn_putZ C (pc' := 24) (ty := .int) rfl dX1_init_21 wf_X1_22 wp_X1_3 rfl h (fun w4 h => ?_)
  refine gn_aload_n C (pc' := 25) (i := 0) rfl dX1_init_24 rfl rfl ?_
  refine gn_iconst C (pc' := 26) (v := 0) rfl dX1_init_25 (by decide) ?_
  refine gn_putI C (pc' := 29) (ty := .int) rfl dX1_init_26 wf_X1_25 wp_X1_4 rfl h (fun w5 h => ?_)
  exact gn_vret C dX1_init_29 h
def sX6_init_50 : Nat → Nat → Int32 → ab_W → Option ab_W
  | 0, _, _, _ => none
  | n + 1, x0, x1, w =>
    if x1 < 128 then
      (sX6_layFlat x0 x1 w).bind fun w1 =>
      sX6_init_50 n x0 (x1 + 1) w1
    else
    some w
def sX6_init (x0 : Nat) (w : ab_W) : Option ab_W :=
  if ab_is w 6 x0 = true then
    ab_al w (.inl (0, 128, .inl (fun _ => 0))) fun w1 =>
    (ab_putR w1 6 x0 0 (List.length w)).bind fun w2 =>
    ab_al w2 (.inl (0, 128, .inl (fun _ => 0))) fun w3 =>
    (ab_putR w3 6 x0 1 (List.length w2)).bind fun w4 =>
    ab_al w4 (.inl (0, 16, .inl (fun _ => 0))) fun w5 =>
    (ab_putR w5 6 x0 2 (List.length w4)).bind fun w6 =>
    ab_al w6 (.inl (0, 128, .inl (fun _ => 0))) fun w7 =>
    (ab_putR w7 6 x0 3 (List.length w6)).bind fun w8 =>
    ab_al w8 (.inl (0, 128, .inl (fun _ => 0))) fun w9 =>
    (ab_putR w9 6 x0 4 (List.length w8)).bind fun w10 =>
    sX6_init_50 1000 x0 0 w10
  else none
set_option maxHeartbeats 4000000 in
set_option maxRecDepth 100000 in
theorem kX6_init_50 {p : Program} {l : Launch} {e : Env} {s : State} {m : MethodId} {args : Array Value} {below : List Frame} {meth : Method} {c : Code} {D : va_G} {ad : Nat → Nat} {tc : Nat → ClassId} {A : Nat → Prop} {base n0 lim : Nat} (C : gn_C p s m args meth c D ad tc A cX6_init 2 none RX6 base n0 lim) {w1 : ab_W} : ∀ {n : Nat} {x0 : Nat} {x1 : Int32} {w : ab_W}, sX6_init_50 n x0 x1 w = some w1 → gn_G p l e (gn_R 2 5 528) s m args below meth c D ad tc A 2 n0 5 528 (gn_Q D ad tc A below args s n0 5 528 w1) 50 [some (.ref x0), some (.int x1)] [] w := by
  intro n
  induction n with
  | zero =>
    intros
    rename_i h
    cases h
  | succ n ih =>
    intro x0 x1 w h
    rw [sX6_init_50] at h
    refine gn_iload_n C (pc' := 51) (i := 1) rfl dX6_init_50 rfl rfl ?_
    refine gn_sipush C (pc' := 54) (v := 128) rfl dX6_init_51 (by decide) ?_
    refine gn_ge C (pc' := 57) (tgt := 68) rfl dX6_init_54 rfl h (fun h => ?_) (fun h => ?_)
    · refine gn_aload_n C (pc' := 58) (i := 0) rfl dX6_init_57 rfl rfl ?_
      refine gn_iload_n C (pc' := 59) (i := 1) rfl dX6_init_58 rfl rfl ?_
      refine gn_callVv C (pc' := 62) rfl dX6_init_59 wm_X6_27 uX6_layFlat h (kX6_layFlat _ _ _) (fun w9 h9 => ln_X6_layFlat h9) (by decide) rfl rfl (by decide) (by decide) (Nat.le_of_ble_eq_true rfl) (fun w1 h => ?_)
      refine gn_iinc C (pc' := 65) (i := 1) (v := _ + 1) (lv' := [_, _]) rfl dX6_init_62 rfl rfl (by decide) rfl rfl ?_
      refine gn_goto C (tgt := 50) dX6_init_65 rfl ?_
      refine gn_drop (lv' := [some _, some _]) (And.intro rfl (And.intro rfl True.intro)) ?_
      exact ih h
    · exact gn_vret C dX6_init_68 h
set_option maxHeartbeats 4000000 in
set_option maxRecDepth 100000 in
theorem kX6_init : ∀ (x0 : Nat) (w : ab_W) (w1 : ab_W), sX6_init x0 w = some w1 → gn_M yX6_init cX6_init 2 2 800 5 528 [.ref x0] w w1 := by
  intro x0 w w1 h
  unfold sX6_init at h
  obtain ⟨hi, h⟩ := ab_ite h
  refine gn_M_of RX6 [some (.ref x0), none] (ab_is_pos hi) (by decide) (by decide +kernel) rfl rfl (Nat.le_of_ble_eq_true rfl) rfl (fun p l e s m args below meth c D ad tc A base n0 hn0 C => ?_)
  refine gn_aload_n C (pc' := 1) (i := 0) rfl dX6_init_0 rfl rfl ?_
  refine gn_objInit C (pc' := 4) ⟨Nat.le_of_ble_eq_true rfl, Nat.le_of_ble_eq_true rfl⟩ rfl dX6_init_1 wo_X6 w_obj rfl ?_
  refine gn_aload_n C (pc' := 5) (i := 0) rfl dX6_init_4 rfl rfl ?_
  refine gn_sipush C (pc' := 8) (v := 128) rfl dX6_init_5 (by decide) ?_
  refine gn_newa C (pc' := 10) (N := 128) rfl dX6_init_8 w_arrI (by decide) (by decide) (by decide) (by decide) (by decide) (by decide) ?_
  have h := ab_al_h h
  refine gn_putF C (pc' := 13) (ty := .array .int) rfl dX6_init_10 wf_X6_9 ⟨⟨tyX6, tyX6_ok⟩, nmX6, rfl⟩ rfl (fun _ => rfl) (by decide +kernel) h (fun w2 h => ?_)
  refine gn_aload_n C (pc' := 14) (i := 0) rfl dX6_init_13 rfl rfl ?_
  refine gn_sipush C (pc' := 17) (v := 128) rfl dX6_init_14 (by decide) ?_
  refine gn_newa C (pc' := 19) (N := 128) rfl dX6_init_17 w_arrI (by decide) (by decide) (by decide) (by decide) (by decide) (by decide) ?_
  have h := ab_al_h h
  refine gn_putF C (pc' := 22) (ty := .array .int) rfl dX6_init_19 wf_X6_15 ⟨⟨tyX6, tyX6_ok⟩, nmX6, rfl⟩ rfl (fun _ => rfl) (by decide +kernel) h (fun w4 h => ?_)
  refine gn_aload_n C (pc' := 23) (i := 0) rfl dX6_init_22 rfl rfl ?_
  refine gn_bipush C (pc' := 25) (v := 16) rfl dX6_init_23 (by decide) ?_
  refine gn_newa C (pc' := 27) (N := 16) rfl dX6_init_25 w_arrI (by decide) (by decide) (by decide) (by decide) (by decide) (by decide) ?_
  have h := ab_al_h h
  refine gn_putF C (pc' := 30) (ty := .array .int) rfl dX6_init_27 wf_X6_18 ⟨⟨tyX6, tyX6_ok⟩, nmX6, rfl⟩ rfl (fun _ => rfl) (by decide +kernel) h (fun w6 h => ?_)
  refine gn_aload_n C (pc' := 31) (i := 0) rfl dX6_init_30 rfl rfl ?_
  refine gn_sipush C (pc' := 34) (v := 128) rfl dX6_init_31 (by decide) ?_
  refine gn_newa C (pc' := 36) (N := 128) rfl dX6_init_34 w_arrI (by decide) (by decide) (by decide) (by decide) (by decide) (by decide) ?_
  have h := ab_al_h h
  refine gn_putF C (pc' := 39) (ty := .array .int) rfl dX6_init_36 wf_X6_21 ⟨⟨tyX6, tyX6_ok⟩, nmX6, rfl⟩ rfl (fun _ => rfl) (by decide +kernel) h (fun w8 h => ?_)
  refine gn_aload_n C (pc' := 40) (i := 0) rfl dX6_init_39 rfl rfl ?_
  refine gn_sipush C (pc' := 43) (v := 128) rfl dX6_init_40 (by decide) ?_
  refine gn_newa C (pc' := 45) (N := 128) rfl dX6_init_43 w_arrI (by decide) (by decide) (by decide) (by decide) (by decide) (by decide) ?_
  have h := ab_al_h h
  refine gn_putF C (pc' := 48) (ty := .array .int) rfl dX6_init_45 wf_X6_24 ⟨⟨tyX6, tyX6_ok⟩, nmX6, rfl⟩ rfl (fun _ => rfl) (by decide +kernel) h (fun w10 h => ?_)
  refine gn_iconst C (pc' := 49) (v := 0) rfl dX6_init_48 (by decide) ?_
  refine gn_istore_n C (pc' := 50) (i := 1) (lv' := [_, _]) rfl dX6_init_49 rfl (by decide) rfl rfl ?_
  refine gn_drop (lv' := [some _, some _]) (And.intro rfl (And.intro rfl True.intro)) ?_
  exact kX6_init_50 C h
def sX0_init (x0 : Nat) (w : ab_W) : Option ab_W :=
  if ab_is w 0 x0 = true then
    ab_al w (.inl (1, 8, .inr (fun _ => none))) fun w1 =>
    (ab_putR w1 0 x0 0 (List.length w)).bind fun w2 =>
    ab_al w2 (.inl (0, 50, .inl (fun _ => 0))) fun w3 =>
    (ab_putR w3 0 x0 1 (List.length w2)).bind fun w4 =>
    ab_al w4 (.inl (2, 2, .inr (fun _ => none))) fun w5 =>
    (ab_putR w5 0 x0 2 (List.length w4)).bind fun w6 =>
    ab_al w6 (.inl (0, 20, .inl (fun _ => 0))) fun w7 =>
    (ab_putR w7 0 x0 3 (List.length w6)).bind fun w8 =>
    (ab_getR w8 0 x0 0).bind fun v9 =>
    ab_al w8 (.inr (3, [.int 0, .int 0, .int 0, .int 0, .int 0, .int 0])) fun w10 =>
    (sX3_init (List.length w8) w10).bind fun w11 =>
    (ab_rst w11 1 v9 0 3 (List.length w8)).bind fun w12 =>
    (ab_getR w12 0 x0 0).bind fun v13 =>
    ab_al w12 (.inr (3, [.int 0, .int 0, .int 0, .int 0, .int 0, .int 0])) fun w14 =>
    (sX3_init (List.length w12) w14).bind fun w15 =>
    (ab_rst w15 1 v13 1 3 (List.length w12)).bind fun w16 =>
    (ab_getR w16 0 x0 0).bind fun v17 =>
    ab_al w16 (.inr (3, [.int 0, .int 0, .int 0, .int 0, .int 0, .int 0])) fun w18 =>
    (sX3_init (List.length w16) w18).bind fun w19 =>
    (ab_rst w19 1 v17 2 3 (List.length w16)).bind fun w20 =>
    (ab_getR w20 0 x0 0).bind fun v21 =>
    ab_al w20 (.inr (3, [.int 0, .int 0, .int 0, .int 0, .int 0, .int 0])) fun w22 =>
    (sX3_init (List.length w20) w22).bind fun w23 =>
    (ab_rst w23 1 v21 3 3 (List.length w20)).bind fun w24 =>
    (ab_getR w24 0 x0 0).bind fun v25 =>
    ab_al w24 (.inr (3, [.int 0, .int 0, .int 0, .int 0, .int 0, .int 0])) fun w26 =>
    (sX3_init (List.length w24) w26).bind fun w27 =>
    (ab_rst w27 1 v25 4 3 (List.length w24)).bind fun w28 =>
    (ab_getR w28 0 x0 0).bind fun v29 =>
    ab_al w28 (.inr (3, [.int 0, .int 0, .int 0, .int 0, .int 0, .int 0])) fun w30 =>
    (sX3_init (List.length w28) w30).bind fun w31 =>
    (ab_rst w31 1 v29 5 3 (List.length w28)).bind fun w32 =>
    (ab_getR w32 0 x0 0).bind fun v33 =>
    ab_al w32 (.inr (3, [.int 0, .int 0, .int 0, .int 0, .int 0, .int 0])) fun w34 =>
    (sX3_init (List.length w32) w34).bind fun w35 =>
    (ab_rst w35 1 v33 6 3 (List.length w32)).bind fun w36 =>
    (ab_getR w36 0 x0 0).bind fun v37 =>
    ab_al w36 (.inr (3, [.int 0, .int 0, .int 0, .int 0, .int 0, .int 0])) fun w38 =>
    (sX3_init (List.length w36) w38).bind fun w39 =>
    (ab_rst w39 1 v37 7 3 (List.length w36)).bind fun w40 =>
    (ab_getR w40 0 x0 2).bind fun v41 =>
    ab_al w40 (.inr (2, [.null, .null, .int 0])) fun w42 =>
    (sX2_init (List.length w40) w42).bind fun w43 =>
    (ab_rst w43 2 v41 0 2 (List.length w40)).bind fun w44 =>
    (ab_getR w44 0 x0 2).bind fun v45 =>
    ab_al w44 (.inr (2, [.null, .null, .int 0])) fun w46 =>
    (sX2_init (List.length w44) w46).bind fun w47 =>
    (ab_rst w47 2 v45 1 2 (List.length w44)).bind fun w48 =>
    (ab_putI w48 0 x0 4 0).bind fun w49 =>
    (ab_putI w49 0 x0 5 0).bind fun w50 =>
    (ab_putI w50 0 x0 6 0).bind fun w51 =>
    (ab_putI w51 0 x0 7 0).bind fun w52 =>
    (ab_putI w52 0 x0 8 0).bind fun w53 =>
    (ab_putI w53 0 x0 9 1).bind fun w54 =>
    some w54
  else none
set_option maxHeartbeats 4000000 in
set_option maxRecDepth 100000 in
theorem kX0_init : ∀ (x0 : Nat) (w : ab_W) (w1 : ab_W), sX0_init x0 w = some w1 → gn_M yX0_init cX0_init 2 2 700 18 334 [.ref x0] w w1 := by
  intro x0 w w1 h
  unfold sX0_init at h
  obtain ⟨hi, h⟩ := ab_ite h
  refine gn_M_of RX0 [some (.ref x0), none] (ab_is_pos hi) (by decide) (by decide +kernel) rfl rfl (Nat.le_of_ble_eq_true rfl) rfl (fun p l e s m args below meth c D ad tc A base n0 hn0 C => ?_)
  refine gn_aload_n C (pc' := 1) (i := 0) rfl dX0_init_0 rfl rfl ?_
  refine gn_objInit C (pc' := 4) ⟨Nat.le_of_ble_eq_true rfl, Nat.le_of_ble_eq_true rfl⟩ rfl dX0_init_1 wo_X0 w_obj rfl ?_
  refine gn_aload_n C (pc' := 5) (i := 0) rfl dX0_init_4 rfl rfl ?_
  refine gn_bipush C (pc' := 7) (v := 8) rfl dX0_init_5 (by decide) ?_
  refine gn_newq C (pc' := 10) (N := 8) (t := 1) rfl dX0_init_7 wc_X0_9 C.2.2.2.2.1.1 rfl (by decide) (by decide) (by decide) (by decide) (by decide) (by decide) ?_
  have h := ab_al_h h
  refine gn_putF C (pc' := 13) (ty := .array (.object RX3)) rfl dX0_init_10 wf_X0_11 ⟨⟨tyX0, tyX0_ok⟩, nmX0, rfl⟩ rfl (fun _ => rfl) (by decide +kernel) h (fun w2 h => ?_)
  refine gn_aload_n C (pc' := 14) (i := 0) rfl dX0_init_13 rfl rfl ?_
  refine gn_bipush C (pc' := 16) (v := 50) rfl dX0_init_14 (by decide) ?_
  refine gn_newa C (pc' := 18) (N := 50) rfl dX0_init_16 w_arrI (by decide) (by decide) (by decide) (by decide) (by decide) (by decide) ?_
  have h := ab_al_h h
  refine gn_putF C (pc' := 21) (ty := .array .int) rfl dX0_init_18 wf_X0_17 ⟨⟨tyX0, tyX0_ok⟩, nmX0, rfl⟩ rfl (fun _ => rfl) (by decide +kernel) h (fun w4 h => ?_)
  refine gn_aload_n C (pc' := 22) (i := 0) rfl dX0_init_21 rfl rfl ?_
  refine gn_iconst C (pc' := 23) (v := 2) rfl dX0_init_22 (by decide) ?_
  refine gn_newq C (pc' := 26) (N := 2) (t := 2) rfl dX0_init_23 wc_X0_21 C.2.2.2.2.1.2.1 rfl (by decide) (by decide) (by decide) (by decide) (by decide) (by decide) ?_
  have h := ab_al_h h
  refine gn_putF C (pc' := 29) (ty := .array (.object RX2)) rfl dX0_init_26 wf_X0_23 ⟨⟨tyX0, tyX0_ok⟩, nmX0, rfl⟩ rfl (fun _ => rfl) (by decide +kernel) h (fun w6 h => ?_)
  refine gn_aload_n C (pc' := 30) (i := 0) rfl dX0_init_29 rfl rfl ?_
  refine gn_bipush C (pc' := 32) (v := 20) rfl dX0_init_30 (by decide) ?_
  refine gn_newa C (pc' := 34) (N := 20) rfl dX0_init_32 w_arrI (by decide) (by decide) (by decide) (by decide) (by decide) (by decide) ?_
  have h := ab_al_h h
  refine gn_putF C (pc' := 37) (ty := .array .int) rfl dX0_init_34 wf_X0_27 ⟨⟨tyX0, tyX0_ok⟩, nmX0, rfl⟩ rfl (fun _ => rfl) (by decide +kernel) h (fun w8 h => ?_)
  refine gn_iconst C (pc' := 38) (v := 0) rfl dX0_init_37 (by decide) ?_
  refine gn_istore_n C (pc' := 39) (i := 1) (lv' := [_, _]) rfl dX0_init_38 rfl (by decide) rfl rfl ?_
  refine gn_iload_n C (pc' := 40) (i := 1) rfl dX0_init_39 rfl rfl ?_
  refine gn_bipush C (pc' := 42) (v := 8) rfl dX0_init_40 (by decide) ?_
  refine gn_ge_F C (pc' := 45) (tgt := 64) rfl dX0_init_42 rfl (by decide) ?_
  refine gn_aload_n C (pc' := 46) (i := 0) rfl dX0_init_45 rfl rfl ?_
  refine gn_getR C (pc' := 49) rfl dX0_init_46 wf_X0_11 h (fun v9 h => ?_)
  refine gn_iload_n C (pc' := 50) (i := 1) rfl dX0_init_49 rfl rfl ?_
  refine gn_new C (pc' := 53) (ci := 3) (fs := [.int 0, .int 0, .int 0, .int 0, .int 0, .int 0]) tyX3 rfl dX0_init_50 wn_X0_9 iX3 rfl tyX3_ok (fun j hj => by rcases (show j = 0 ∨ j = 1 ∨ j = 2 ∨ j = 3 ∨ j = 4 ∨ j = 5 by omega) with rfl | rfl | rfl | rfl | rfl | rfl <;> rfl) (by decide) (by decide) (by decide) ?_
  have h := ab_al_h h
  refine gn_dup C (pc' := 54) rfl dX0_init_53 rfl ?_
  refine gn_callI C (pc' := 57) rfl dX0_init_54 wm_X0_30 uX3_init.1 uX3_init.2 rfl h (kX3_init _ _) (by decide) (by decide) (by decide) (by decide) (by decide) (Nat.le_of_ble_eq_true rfl) (fun w11 h => ?_)
  refine gn_aast C (pc' := 58) (t := 1) (ci := 3) rfl dX0_init_57 rfl rfl h (fun w12 h => ?_)
  refine gn_iinc C (pc' := 61) (i := 1) (v := 1) (lv' := [_, _]) rfl dX0_init_58 rfl (by decide) (by decide) rfl rfl ?_
  refine gn_goto C (tgt := 39) dX0_init_61 rfl ?_
  refine gn_iload_n C (pc' := 40) (i := 1) rfl dX0_init_39 rfl rfl ?_
  refine gn_bipush C (pc' := 42) (v := 8) rfl dX0_init_40 (by decide) ?_
  refine gn_ge_F C (pc' := 45) (tgt := 64) rfl dX0_init_42 rfl (by decide) ?_
  refine gn_aload_n C (pc' := 46) (i := 0) rfl dX0_init_45 rfl rfl ?_
  refine gn_getR C (pc' := 49) rfl dX0_init_46 wf_X0_11 h (fun v13 h => ?_)
  refine gn_iload_n C (pc' := 50) (i := 1) rfl dX0_init_49 rfl rfl ?_
  refine gn_new C (pc' := 53) (ci := 3) (fs := [.int 0, .int 0, .int 0, .int 0, .int 0, .int 0]) tyX3 rfl dX0_init_50 wn_X0_9 iX3 rfl tyX3_ok (fun j hj => by rcases (show j = 0 ∨ j = 1 ∨ j = 2 ∨ j = 3 ∨ j = 4 ∨ j = 5 by omega) with rfl | rfl | rfl | rfl | rfl | rfl <;> rfl) (by decide) (by decide) (by decide) ?_
  have h := ab_al_h h
  refine gn_dup C (pc' := 54) rfl dX0_init_53 rfl ?_
  refine gn_callI C (pc' := 57) rfl dX0_init_54 wm_X0_30 uX3_init.1 uX3_init.2 rfl h (kX3_init _ _) (by decide) (by decide) (by decide) (by decide) (by decide) (Nat.le_of_ble_eq_true rfl) (fun w15 h => ?_)
  refine gn_aast C (pc' := 58) (t := 1) (ci := 3) rfl dX0_init_57 rfl rfl h (fun w16 h => ?_)
  refine gn_iinc C (pc' := 61) (i := 1) (v := 2) (lv' := [_, _]) rfl dX0_init_58 rfl (by decide) (by decide) rfl rfl ?_
  refine gn_goto C (tgt := 39) dX0_init_61 rfl ?_
  refine gn_iload_n C (pc' := 40) (i := 1) rfl dX0_init_39 rfl rfl ?_
  refine gn_bipush C (pc' := 42) (v := 8) rfl dX0_init_40 (by decide) ?_
  refine gn_ge_F C (pc' := 45) (tgt := 64) rfl dX0_init_42 rfl (by decide) ?_
  refine gn_aload_n C (pc' := 46) (i := 0) rfl dX0_init_45 rfl rfl ?_
  refine gn_getR C (pc' := 49) rfl dX0_init_46 wf_X0_11 h (fun v17 h => ?_)
  refine gn_iload_n C (pc' := 50) (i := 1) rfl dX0_init_49 rfl rfl ?_
  refine gn_new C (pc' := 53) (ci := 3) (fs := [.int 0, .int 0, .int 0, .int 0, .int 0, .int 0]) tyX3 rfl dX0_init_50 wn_X0_9 iX3 rfl tyX3_ok (fun j hj => by rcases (show j = 0 ∨ j = 1 ∨ j = 2 ∨ j = 3 ∨ j = 4 ∨ j = 5 by omega) with rfl | rfl | rfl | rfl | rfl | rfl <;> rfl) (by decide) (by decide) (by decide) ?_
  have h := ab_al_h h
  refine gn_dup C (pc' := 54) rfl dX0_init_53 rfl ?_
  refine gn_callI C (pc' := 57) rfl dX0_init_54 wm_X0_30 uX3_init.1 uX3_init.2 rfl h (kX3_init _ _) (by decide) (by decide) (by decide) (by decide) (by decide) (Nat.le_of_ble_eq_true rfl) (fun w19 h => ?_)
  refine gn_aast C (pc' := 58) (t := 1) (ci := 3) rfl dX0_init_57 rfl rfl h (fun w20 h => ?_)
  refine gn_iinc C (pc' := 61) (i := 1) (v := 3) (lv' := [_, _]) rfl dX0_init_58 rfl (by decide) (by decide) rfl rfl ?_
  refine gn_goto C (tgt := 39) dX0_init_61 rfl ?_
  refine gn_iload_n C (pc' := 40) (i := 1) rfl dX0_init_39 rfl rfl ?_
  refine gn_bipush C (pc' := 42) (v := 8) rfl dX0_init_40 (by decide) ?_
  refine gn_ge_F C (pc' := 45) (tgt := 64) rfl dX0_init_42 rfl (by decide) ?_
  refine gn_aload_n C (pc' := 46) (i := 0) rfl dX0_init_45 rfl rfl ?_
  refine gn_getR C (pc' := 49) rfl dX0_init_46 wf_X0_11 h (fun v21 h => ?_)
  refine gn_iload_n C (pc' := 50) (i := 1) rfl dX0_init_49 rfl rfl ?_
  refine gn_new C (pc' := 53) (ci := 3) (fs := [.int 0, .int 0, .int 0, .int 0, .int 0, .int 0]) tyX3 rfl dX0_init_50 wn_X0_9 iX3 rfl tyX3_ok (fun j hj => by rcases (show j = 0 ∨ j = 1 ∨ j = 2 ∨ j = 3 ∨ j = 4 ∨ j = 5 by omega) with rfl | rfl | rfl | rfl | rfl | rfl <;> rfl) (by decide) (by decide) (by decide) ?_
  have h := ab_al_h h
  refine gn_dup C (pc' := 54) rfl dX0_init_53 rfl ?_
  refine gn_callI C (pc' := 57) rfl dX0_init_54 wm_X0_30 uX3_init.1 uX3_init.2 rfl h (kX3_init _ _) (by decide) (by decide) (by decide) (by decide) (by decide) (Nat.le_of_ble_eq_true rfl) (fun w23 h => ?_)
  refine gn_aast C (pc' := 58) (t := 1) (ci := 3) rfl dX0_init_57 rfl rfl h (fun w24 h => ?_)
  refine gn_iinc C (pc' := 61) (i := 1) (v := 4) (lv' := [_, _]) rfl dX0_init_58 rfl (by decide) (by decide) rfl rfl ?_
  refine gn_goto C (tgt := 39) dX0_init_61 rfl ?_
  refine gn_iload_n C (pc' := 40) (i := 1) rfl dX0_init_39 rfl rfl ?_
  refine gn_bipush C (pc' := 42) (v := 8) rfl dX0_init_40 (by decide) ?_
  refine gn_ge_F C (pc' := 45) (tgt := 64) rfl dX0_init_42 rfl (by decide) ?_
  refine gn_aload_n C (pc' := 46) (i := 0) rfl dX0_init_45 rfl rfl ?_
  refine gn_getR C (pc' := 49) rfl dX0_init_46 wf_X0_11 h (fun v25 h => ?_)
  refine gn_iload_n C (pc' := 50) (i := 1) rfl dX0_init_49 rfl rfl ?_
  refine gn_new C (pc' := 53) (ci := 3) (fs := [.int 0, .int 0, .int 0, .int 0, .int 0, .int 0]) tyX3 rfl dX0_init_50 wn_X0_9 iX3 rfl tyX3_ok (fun j hj => by rcases (show j = 0 ∨ j = 1 ∨ j = 2 ∨ j = 3 ∨ j = 4 ∨ j = 5 by omega) with rfl | rfl | rfl | rfl | rfl | rfl <;> rfl) (by decide) (by decide) (by decide) ?_
  have h := ab_al_h h
  refine gn_dup C (pc' := 54) rfl dX0_init_53 rfl ?_
  refine gn_callI C (pc' := 57) rfl dX0_init_54 wm_X0_30 uX3_init.1 uX3_init.2 rfl h (kX3_init _ _) (by decide) (by decide) (by decide) (by decide) (by decide) (Nat.le_of_ble_eq_true rfl) (fun w27 h => ?_)
  refine gn_aast C (pc' := 58) (t := 1) (ci := 3) rfl dX0_init_57 rfl rfl h (fun w28 h => ?_)
  refine gn_iinc C (pc' := 61) (i := 1) (v := 5) (lv' := [_, _]) rfl dX0_init_58 rfl (by decide) (by decide) rfl rfl ?_
  refine gn_goto C (tgt := 39) dX0_init_61 rfl ?_
  refine gn_iload_n C (pc' := 40) (i := 1) rfl dX0_init_39 rfl rfl ?_
  refine gn_bipush C (pc' := 42) (v := 8) rfl dX0_init_40 (by decide) ?_
  refine gn_ge_F C (pc' := 45) (tgt := 64) rfl dX0_init_42 rfl (by decide) ?_
  refine gn_aload_n C (pc' := 46) (i := 0) rfl dX0_init_45 rfl rfl ?_
  refine gn_getR C (pc' := 49) rfl dX0_init_46 wf_X0_11 h (fun v29 h => ?_)
  refine gn_iload_n C (pc' := 50) (i := 1) rfl dX0_init_49 rfl rfl ?_
  refine gn_new C (pc' := 53) (ci := 3) (fs := [.int 0, .int 0, .int 0, .int 0, .int 0, .int 0]) tyX3 rfl dX0_init_50 wn_X0_9 iX3 rfl tyX3_ok (fun j hj => by rcases (show j = 0 ∨ j = 1 ∨ j = 2 ∨ j = 3 ∨ j = 4 ∨ j = 5 by omega) with rfl | rfl | rfl | rfl | rfl | rfl <;> rfl) (by decide) (by decide) (by decide) ?_
  have h := ab_al_h h
  refine gn_dup C (pc' := 54) rfl dX0_init_53 rfl ?_
  refine gn_callI C (pc' := 57) rfl dX0_init_54 wm_X0_30 uX3_init.1 uX3_init.2 rfl h (kX3_init _ _) (by decide) (by decide) (by decide) (by decide) (by decide) (Nat.le_of_ble_eq_true rfl) (fun w31 h => ?_)
  refine gn_aast C (pc' := 58) (t := 1) (ci := 3) rfl dX0_init_57 rfl rfl h (fun w32 h => ?_)
  refine gn_iinc C (pc' := 61) (i := 1) (v := 6) (lv' := [_, _]) rfl dX0_init_58 rfl (by decide) (by decide) rfl rfl ?_
  refine gn_goto C (tgt := 39) dX0_init_61 rfl ?_
  refine gn_iload_n C (pc' := 40) (i := 1) rfl dX0_init_39 rfl rfl ?_
  refine gn_bipush C (pc' := 42) (v := 8) rfl dX0_init_40 (by decide) ?_
  refine gn_ge_F C (pc' := 45) (tgt := 64) rfl dX0_init_42 rfl (by decide) ?_
  refine gn_aload_n C (pc' := 46) (i := 0) rfl dX0_init_45 rfl rfl ?_
  refine gn_getR C (pc' := 49) rfl dX0_init_46 wf_X0_11 h (fun v33 h => ?_)
  refine gn_iload_n C (pc' := 50) (i := 1) rfl dX0_init_49 rfl rfl ?_
  refine gn_new C (pc' := 53) (ci := 3) (fs := [.int 0, .int 0, .int 0, .int 0, .int 0, .int 0]) tyX3 rfl dX0_init_50 wn_X0_9 iX3 rfl tyX3_ok (fun j hj => by rcases (show j = 0 ∨ j = 1 ∨ j = 2 ∨ j = 3 ∨ j = 4 ∨ j = 5 by omega) with rfl | rfl | rfl | rfl | rfl | rfl <;> rfl) (by decide) (by decide) (by decide) ?_
  have h := ab_al_h h
  refine gn_dup C (pc' := 54) rfl dX0_init_53 rfl ?_
  refine gn_callI C (pc' := 57) rfl dX0_init_54 wm_X0_30 uX3_init.1 uX3_init.2 rfl h (kX3_init _ _) (by decide) (by decide) (by decide) (by decide) (by decide) (Nat.le_of_ble_eq_true rfl) (fun w35 h => ?_)
  refine gn_aast C (pc' := 58) (t := 1) (ci := 3) rfl dX0_init_57 rfl rfl h (fun w36 h => ?_)
  refine gn_iinc C (pc' := 61) (i := 1) (v := 7) (lv' := [_, _]) rfl dX0_init_58 rfl (by decide) (by decide) rfl rfl ?_
  refine gn_goto C (tgt := 39) dX0_init_61 rfl ?_
  refine gn_iload_n C (pc' := 40) (i := 1) rfl dX0_init_39 rfl rfl ?_
  refine gn_bipush C (pc' := 42) (v := 8) rfl dX0_init_40 (by decide) ?_
  refine gn_ge_F C (pc' := 45) (tgt := 64) rfl dX0_init_42 rfl (by decide) ?_
  refine gn_aload_n C (pc' := 46) (i := 0) rfl dX0_init_45 rfl rfl ?_
  refine gn_getR C (pc' := 49) rfl dX0_init_46 wf_X0_11 h (fun v37 h => ?_)
  refine gn_iload_n C (pc' := 50) (i := 1) rfl dX0_init_49 rfl rfl ?_
  refine gn_new C (pc' := 53) (ci := 3) (fs := [.int 0, .int 0, .int 0, .int 0, .int 0, .int 0]) tyX3 rfl dX0_init_50 wn_X0_9 iX3 rfl tyX3_ok (fun j hj => by rcases (show j = 0 ∨ j = 1 ∨ j = 2 ∨ j = 3 ∨ j = 4 ∨ j = 5 by omega) with rfl | rfl | rfl | rfl | rfl | rfl <;> rfl) (by decide) (by decide) (by decide) ?_
  have h := ab_al_h h
  refine gn_dup C (pc' := 54) rfl dX0_init_53 rfl ?_
  refine gn_callI C (pc' := 57) rfl dX0_init_54 wm_X0_30 uX3_init.1 uX3_init.2 rfl h (kX3_init _ _) (by decide) (by decide) (by decide) (by decide) (by decide) (Nat.le_of_ble_eq_true rfl) (fun w39 h => ?_)
  refine gn_aast C (pc' := 58) (t := 1) (ci := 3) rfl dX0_init_57 rfl rfl h (fun w40 h => ?_)
  refine gn_iinc C (pc' := 61) (i := 1) (v := 8) (lv' := [_, _]) rfl dX0_init_58 rfl (by decide) (by decide) rfl rfl ?_
  refine gn_goto C (tgt := 39) dX0_init_61 rfl ?_
  refine gn_iload_n C (pc' := 40) (i := 1) rfl dX0_init_39 rfl rfl ?_
  refine gn_bipush C (pc' := 42) (v := 8) rfl dX0_init_40 (by decide) ?_
  refine gn_ge_T C (tgt := 64) dX0_init_42 rfl (by decide) ?_
  refine gn_iconst C (pc' := 65) (v := 0) rfl dX0_init_64 (by decide) ?_
  refine gn_istore_n C (pc' := 66) (i := 1) (lv' := [_, _]) rfl dX0_init_65 rfl (by decide) rfl rfl ?_
  refine gn_iload_n C (pc' := 67) (i := 1) rfl dX0_init_66 rfl rfl ?_
  refine gn_iconst C (pc' := 68) (v := 2) rfl dX0_init_67 (by decide) ?_
  refine gn_ge_F C (pc' := 71) (tgt := 90) rfl dX0_init_68 rfl (by decide) ?_
  refine gn_aload_n C (pc' := 72) (i := 0) rfl dX0_init_71 rfl rfl ?_
  refine gn_getR C (pc' := 75) rfl dX0_init_72 wf_X0_23 h (fun v41 h => ?_)
  refine gn_iload_n C (pc' := 76) (i := 1) rfl dX0_init_75 rfl rfl ?_
  refine gn_new C (pc' := 79) (ci := 2) (fs := [.null, .null, .int 0]) tyX2 rfl dX0_init_76 wn_X0_21 iX2 rfl tyX2_ok (fun j hj => by rcases (show j = 0 ∨ j = 1 ∨ j = 2 by omega) with rfl | rfl | rfl <;> rfl) (by decide) (by decide) (by decide) ?_
  have h := ab_al_h h
  refine gn_dup C (pc' := 80) rfl dX0_init_79 rfl ?_
  refine gn_callI C (pc' := 83) rfl dX0_init_80 wm_X0_31 uX2_init.1 uX2_init.2 rfl h (kX2_init _ _) (by decide) (by decide) (by decide) (by decide) (by decide) (Nat.le_of_ble_eq_true rfl) (fun w43 h => ?_)
  refine gn_aast C (pc' := 84) (t := 2) (ci := 2) rfl dX0_init_83 rfl rfl h (fun w44 h => ?_)
  refine gn_iinc C (pc' := 87) (i := 1) (v := 1) (lv' := [_, _]) rfl dX0_init_84 rfl (by decide) (by decide) rfl rfl ?_
  refine gn_goto C (tgt := 66) dX0_init_87 rfl ?_
  refine gn_iload_n C (pc' := 67) (i := 1) rfl dX0_init_66 rfl rfl ?_
  refine gn_iconst C (pc' := 68) (v := 2) rfl dX0_init_67 (by decide) ?_
  refine gn_ge_F C (pc' := 71) (tgt := 90) rfl dX0_init_68 rfl (by decide) ?_
  refine gn_aload_n C (pc' := 72) (i := 0) rfl dX0_init_71 rfl rfl ?_
  refine gn_getR C (pc' := 75) rfl dX0_init_72 wf_X0_23 h (fun v45 h => ?_)
  refine gn_iload_n C (pc' := 76) (i := 1) rfl dX0_init_75 rfl rfl ?_
  refine gn_new C (pc' := 79) (ci := 2) (fs := [.null, .null, .int 0]) tyX2 rfl dX0_init_76 wn_X0_21 iX2 rfl tyX2_ok (fun j hj => by rcases (show j = 0 ∨ j = 1 ∨ j = 2 by omega) with rfl | rfl | rfl <;> rfl) (by decide) (by decide) (by decide) ?_
  have h := ab_al_h h
  refine gn_dup C (pc' := 80) rfl dX0_init_79 rfl ?_
  refine gn_callI C (pc' := 83) rfl dX0_init_80 wm_X0_31 uX2_init.1 uX2_init.2 rfl h (kX2_init _ _) (by decide) (by decide) (by decide) (by decide) (by decide) (Nat.le_of_ble_eq_true rfl) (fun w47 h => ?_)
  refine gn_aast C (pc' := 84) (t := 2) (ci := 2) rfl dX0_init_83 rfl rfl h (fun w48 h => ?_)
  refine gn_iinc C (pc' := 87) (i := 1) (v := 2) (lv' := [_, _]) rfl dX0_init_84 rfl (by decide) (by decide) rfl rfl ?_
  refine gn_goto C (tgt := 66) dX0_init_87 rfl ?_
  refine gn_iload_n C (pc' := 67) (i := 1) rfl dX0_init_66 rfl rfl ?_
  refine gn_iconst C (pc' := 68) (v := 2) rfl dX0_init_67 (by decide) ?_
  refine gn_ge_T C (tgt := 90) dX0_init_68 rfl (by decide) ?_
  refine gn_aload_n C (pc' := 91) (i := 0) rfl dX0_init_90 rfl rfl ?_
  refine gn_iconst C (pc' := 92) (v := 0) rfl dX0_init_91 (by decide) ?_
  refine gn_putI C (pc' := 95) (ty := .int) rfl dX0_init_92 wf_X0_32 wp_X0_4 rfl h (fun w49 h => ?_)
  refine gn_aload_n C (pc' := 96) (i := 0) rfl dX0_init_95 rfl rfl ?_
  refine gn_iconst C (pc' := 97) (v := 0) rfl dX0_init_96 (by decide) ?_
  refine gn_putI C (pc' := 100) (ty := .int) rfl dX0_init_97 wf_X0_36 wp_X0_5 rfl h (fun w50 h => ?_)
  refine gn_aload_n C (pc' := 101) (i := 0) rfl dX0_init_100 rfl rfl ?_
  refine gn_iconst C (pc' := 102) (v := 0) rfl dX0_init_101 (by decide) ?_
  refine gn_putI C (pc' := 105) (ty := .int) rfl dX0_init_102 wf_X0_39 wp_X0_6 rfl h (fun w51 h => ?_)
  refine gn_aload_n C (pc' := 106) (i := 0) rfl dX0_init_105 rfl rfl ?_
  refine gn_iconst C (pc' := 107) (v := 0) rfl dX0_init_106 (by decide) ?_
  refine gn_putI C (pc' := 110) (ty := .int) rfl dX0_init_107 wf_X0_42 wp_X0_7 rfl h (fun w52 h => ?_)
  refine gn_aload_n C (pc' := 111) (i := 0) rfl dX0_init_110 rfl rfl ?_
  refine gn_iconst C (pc' := 112) (v := 0) rfl dX0_init_111 (by decide) ?_
  refine gn_putI C (pc' := 115) (ty := .int) rfl dX0_init_112 wf_X0_45 wp_X0_8 rfl h (fun w53 h => ?_)
  refine gn_aload_n C (pc' := 116) (i := 0) rfl dX0_init_115 rfl rfl ?_
  refine gn_iconst C (pc' := 117) (v := 1) rfl dX0_init_116 (by decide) ?_
  refine gn_putI C (pc' := 120) (ty := .int) rfl dX0_init_117 wf_X0_48 wp_X0_9 rfl h (fun w54 h => ?_)
  exact gn_vret C dX0_init_120 h
def sX7_init (x0 : Nat) (w : ab_W) : Option ab_W :=
  if ab_is w 7 x0 = true then
    ab_al w (.inr (1, [.int 0, .int 0, .int 0, .int 0, .int 0])) fun w1 =>
    (sX1_init (List.length w) w1).bind fun w2 =>
    (ab_putR w2 7 x0 4 (List.length w)).bind fun w3 =>
    ab_al w3 (.inl (0, 20, .inl (fun _ => 0))) fun w4 =>
    (ab_putR w4 7 x0 5 (List.length w3)).bind fun w5 =>
    (ab_putI w5 7 x0 0 0).bind fun w6 =>
    (ab_putI w6 7 x0 1 0).bind fun w7 =>
    (ab_putI w7 7 x0 2 0).bind fun w8 =>
    (ab_putI w8 7 x0 3 0).bind fun w9 =>
    some w9
  else none
set_option maxHeartbeats 4000000 in
set_option maxRecDepth 100000 in
theorem kX7_init : ∀ (x0 : Nat) (w : ab_W) (w1 : ab_W), sX7_init x0 w = some w1 → gn_M yX7_init cX7_init 1 2 700 2 25 [.ref x0] w w1 := by
  intro x0 w w1 h
  unfold sX7_init at h
  obtain ⟨hi, h⟩ := ab_ite h
  refine gn_M_of RX7 [some (.ref x0)] (ab_is_pos hi) (by decide) (by decide +kernel) rfl rfl (Nat.le_of_ble_eq_true rfl) rfl (fun p l e s m args below meth c D ad tc A base n0 hn0 C => ?_)
  refine gn_aload_n C (pc' := 1) (i := 0) rfl dX7_init_0 rfl rfl ?_
  refine gn_objInit C (pc' := 4) ⟨Nat.le_of_ble_eq_true rfl, Nat.le_of_ble_eq_true rfl⟩ rfl dX7_init_1 wo_X7 w_obj rfl ?_
  refine gn_aload_n C (pc' := 5) (i := 0) rfl dX7_init_4 rfl rfl ?_
  refine gn_new C (pc' := 8) (ci := 1) (fs := [.int 0, .int 0, .int 0, .int 0, .int 0]) tyX1 rfl dX7_init_5 wn_X7_9 iX1 rfl tyX1_ok (fun j hj => by rcases (show j = 0 ∨ j = 1 ∨ j = 2 ∨ j = 3 ∨ j = 4 by omega) with rfl | rfl | rfl | rfl | rfl <;> rfl) (by decide) (by decide) (by decide) ?_
  have h := ab_al_h h
  refine gn_dup C (pc' := 9) rfl dX7_init_8 rfl ?_
  refine gn_callI C (pc' := 12) rfl dX7_init_9 wm_X7_11 uX1_init.1 uX1_init.2 rfl h (kX1_init _ _) (by decide) (by decide) (by decide) (by decide) (by decide) (Nat.le_of_ble_eq_true rfl) (fun w2 h => ?_)
  refine gn_putF C (pc' := 15) (ty := .object RX1) rfl dX7_init_12 wf_X7_12 ⟨⟨tyX7, tyX7_ok⟩, nmX7, rfl⟩ rfl (fun _ => rfl) (by decide +kernel) h (fun w3 h => ?_)
  refine gn_aload_n C (pc' := 16) (i := 0) rfl dX7_init_15 rfl rfl ?_
  refine gn_bipush C (pc' := 18) (v := 20) rfl dX7_init_16 (by decide) ?_
  refine gn_newa C (pc' := 20) (N := 20) rfl dX7_init_18 w_arrI (by decide) (by decide) (by decide) (by decide) (by decide) (by decide) ?_
  have h := ab_al_h h
  refine gn_putF C (pc' := 23) (ty := .array .int) rfl dX7_init_20 wf_X7_18 ⟨⟨tyX7, tyX7_ok⟩, nmX7, rfl⟩ rfl (fun _ => rfl) (by decide +kernel) h (fun w5 h => ?_)
  refine gn_aload_n C (pc' := 24) (i := 0) rfl dX7_init_23 rfl rfl ?_
  refine gn_iconst C (pc' := 25) (v := 0) rfl dX7_init_24 (by decide) ?_
  refine gn_putI C (pc' := 28) (ty := .int) rfl dX7_init_25 wf_X7_22 wp_X7_0 rfl h (fun w6 h => ?_)
  refine gn_aload_n C (pc' := 29) (i := 0) rfl dX7_init_28 rfl rfl ?_
  refine gn_iconst C (pc' := 30) (v := 0) rfl dX7_init_29 (by decide) ?_
  refine gn_putI C (pc' := 33) (ty := .int) rfl dX7_init_30 wf_X7_26 wp_X7_1 rfl h (fun w7 h => ?_)
  refine gn_aload_n C (pc' := 34) (i := 0) rfl dX7_init_33 rfl rfl ?_
  refine gn_iconst C (pc' := 35) (v := 0) rfl dX7_init_34 (by decide) ?_
  refine gn_putI C (pc' := 38) (ty := .int) rfl dX7_init_35 wf_X7_29 wp_X7_2 rfl h (fun w8 h => ?_)
  refine gn_aload_n C (pc' := 39) (i := 0) rfl dX7_init_38 rfl rfl ?_
  refine gn_iconst C (pc' := 40) (v := 0) rfl dX7_init_39 (by decide) ?_
  refine gn_putI C (pc' := 43) (ty := .int) rfl dX7_init_40 wf_X7_32 wp_X7_3 rfl h (fun w9 h => ?_)
  exact gn_vret C dX7_init_43 h
def sX4_init (x0 : Nat) (w : ab_W) : Option ab_W :=
  if ab_is w 4 x0 = true then
    ab_al w (.inr (2, [.null, .null, .int 0])) fun w1 =>
    (sX2_init (List.length w) w1).bind fun w2 =>
    (ab_putR w2 4 x0 0 (List.length w)).bind fun w3 =>
    ab_al w3 (.inl (0, 0, .inl (fun _ => 0))) fun w4 =>
    (ab_putR w4 4 x0 2 (List.length w3)).bind fun w5 =>
    (ab_putI w5 4 x0 3 0).bind fun w6 =>
    (ab_putI w6 4 x0 4 0).bind fun w7 =>
    (ab_putI w7 4 x0 1 0).bind fun w8 =>
    some w8
  else none
set_option maxHeartbeats 4000000 in
set_option maxRecDepth 100000 in
theorem kX4_init : ∀ (x0 : Nat) (w : ab_W) (w1 : ab_W), sX4_init x0 w = some w1 → gn_M yX4_init cX4_init 1 2 700 4 103 [.ref x0] w w1 := by
  intro x0 w w1 h
  unfold sX4_init at h
  obtain ⟨hi, h⟩ := ab_ite h
  refine gn_M_of RX4 [some (.ref x0)] (ab_is_pos hi) (by decide) (by decide +kernel) rfl rfl (Nat.le_of_ble_eq_true rfl) rfl (fun p l e s m args below meth c D ad tc A base n0 hn0 C => ?_)
  refine gn_aload_n C (pc' := 1) (i := 0) rfl dX4_init_0 rfl rfl ?_
  refine gn_objInit C (pc' := 4) ⟨Nat.le_of_ble_eq_true rfl, Nat.le_of_ble_eq_true rfl⟩ rfl dX4_init_1 wo_X4 w_obj rfl ?_
  refine gn_aload_n C (pc' := 5) (i := 0) rfl dX4_init_4 rfl rfl ?_
  refine gn_new C (pc' := 8) (ci := 2) (fs := [.null, .null, .int 0]) tyX2 rfl dX4_init_5 wn_X4_9 iX2 rfl tyX2_ok (fun j hj => by rcases (show j = 0 ∨ j = 1 ∨ j = 2 by omega) with rfl | rfl | rfl <;> rfl) (by decide) (by decide) (by decide) ?_
  have h := ab_al_h h
  refine gn_dup C (pc' := 9) rfl dX4_init_8 rfl ?_
  refine gn_callI C (pc' := 12) rfl dX4_init_9 wm_X4_11 uX2_init.1 uX2_init.2 rfl h (kX2_init _ _) (by decide) (by decide) (by decide) (by decide) (by decide) (Nat.le_of_ble_eq_true rfl) (fun w2 h => ?_)
  refine gn_putF C (pc' := 15) (ty := .object RX2) rfl dX4_init_12 wf_X4_12 ⟨⟨tyX4, tyX4_ok⟩, nmX4, rfl⟩ rfl (fun _ => rfl) (by decide +kernel) h (fun w3 h => ?_)
  refine gn_aload_n C (pc' := 16) (i := 0) rfl dX4_init_15 rfl rfl ?_
  refine gn_iconst C (pc' := 17) (v := 0) rfl dX4_init_16 (by decide) ?_
  refine gn_newa C (pc' := 19) (N := 0) rfl dX4_init_17 w_arrI (by decide) (by decide) (by decide) (by decide) (by decide) (by decide) ?_
  have h := ab_al_h h
  refine gn_putR C (pc' := 22) (ty := .array .int) rfl dX4_init_19 wf_X4_18 wp_X4_2 (fun _ => rfl) (by decide +kernel) h (fun w5 h => ?_)
  refine gn_aload_n C (pc' := 23) (i := 0) rfl dX4_init_22 rfl rfl ?_
  refine gn_iconst C (pc' := 24) (v := 0) rfl dX4_init_23 (by decide) ?_
  refine gn_putI C (pc' := 27) (ty := .int) rfl dX4_init_24 wf_X4_22 wp_X4_3 rfl h (fun w6 h => ?_)
  refine gn_aload_n C (pc' := 28) (i := 0) rfl dX4_init_27 rfl rfl ?_
  refine gn_iconst C (pc' := 29) (v := 0) rfl dX4_init_28 (by decide) ?_
  refine gn_putI C (pc' := 32) (ty := .int) rfl dX4_init_29 wf_X4_26 wp_X4_4 rfl h (fun w7 h => ?_)
  refine gn_aload_n C (pc' := 33) (i := 0) rfl dX4_init_32 rfl rfl ?_
  refine gn_iconst C (pc' := 34) (v := 0) rfl dX4_init_33 (by decide) ?_
  refine gn_putI C (pc' := 37) (ty := .int) rfl dX4_init_34 wf_X4_29 wp_X4_1 rfl h (fun w8 h => ?_)
  exact gn_vret C dX4_init_37 h
def sX9_init (x0 : Nat) (w : ab_W) : Option ab_W :=
  if ab_is w 9 x0 = true then
    ab_al w (.inl (0, 6, .inl (fun _ => 0))) fun w1 =>
    (ab_putR w1 9 x0 0 (List.length w)).bind fun w2 =>
    ab_al w2 (.inl (3, 4, .inr (fun _ => none))) fun w3 =>
    (ab_putR w3 9 x0 1 (List.length w2)).bind fun w4 =>
    (ab_getR w4 9 x0 1).bind fun v5 =>
    ab_al w4 (.inr (5, [.null, .int 0, .int 0])) fun w6 =>
    (sX5_init (List.length w4) w6).bind fun w7 =>
    (ab_rst w7 3 v5 0 5 (List.length w4)).bind fun w8 =>
    (ab_getR w8 9 x0 1).bind fun v9 =>
    ab_al w8 (.inr (5, [.null, .int 0, .int 0])) fun w10 =>
    (sX5_init (List.length w8) w10).bind fun w11 =>
    (ab_rst w11 3 v9 1 5 (List.length w8)).bind fun w12 =>
    (ab_getR w12 9 x0 1).bind fun v13 =>
    ab_al w12 (.inr (5, [.null, .int 0, .int 0])) fun w14 =>
    (sX5_init (List.length w12) w14).bind fun w15 =>
    (ab_rst w15 3 v13 2 5 (List.length w12)).bind fun w16 =>
    (ab_getR w16 9 x0 1).bind fun v17 =>
    ab_al w16 (.inr (5, [.null, .int 0, .int 0])) fun w18 =>
    (sX5_init (List.length w16) w18).bind fun w19 =>
    (ab_rst w19 3 v17 3 5 (List.length w16)).bind fun w20 =>
    ab_al w20 (.inr (6, [.null, .null, .null, .null, .null])) fun w21 =>
    (sX6_init (List.length w20) w21).bind fun w22 =>
    (ab_putR w22 9 x0 2 (List.length w20)).bind fun w23 =>
    ab_al w23 (.inr (0, [.null, .null, .null, .null, .int 0, .int 0, .int 0, .int 0, .int 0, .int 0])) fun w24 =>
    (sX0_init (List.length w23) w24).bind fun w25 =>
    (ab_putR w25 9 x0 3 (List.length w23)).bind fun w26 =>
    ab_al w26 (.inr (0, [.null, .null, .null, .null, .int 0, .int 0, .int 0, .int 0, .int 0, .int 0])) fun w27 =>
    (sX0_init (List.length w26) w27).bind fun w28 =>
    (ab_putR w28 9 x0 4 (List.length w26)).bind fun w29 =>
    ab_al w29 (.inr (7, [.int 0, .int 0, .int 0, .int 0, .null, .null])) fun w30 =>
    (sX7_init (List.length w29) w30).bind fun w31 =>
    (ab_putR w31 9 x0 5 (List.length w29)).bind fun w32 =>
    ab_al w32 (.inr (4, [.null, .int 0, .null, .int 0, .int 0])) fun w33 =>
    (sX4_init (List.length w32) w33).bind fun w34 =>
    (ab_putR w34 9 x0 6 (List.length w32)).bind fun w35 =>
    ab_al w35 (.inr (8, [.null, .int 0, .int 0, .int 0, .int 0])) fun w36 =>
    (sX8_init (List.length w35) w36).bind fun w37 =>
    (ab_putR w37 9 x0 7 (List.length w35)).bind fun w38 =>
    (ab_putI w38 9 x0 8 0).bind fun w39 =>
    some w39
  else none
set_option maxHeartbeats 4000000 in
set_option maxRecDepth 100000 in
theorem kX9_init : ∀ (x0 : Nat) (w : ab_W) (w1 : ab_W), sX9_init x0 w = some w1 → gn_M yX9_init cX9_init 2 3 600 64 1587 [.ref x0] w w1 := by
  intro x0 w w1 h
  unfold sX9_init at h
  obtain ⟨hi, h⟩ := ab_ite h
  refine gn_M_of RX9 [some (.ref x0), none] (ab_is_pos hi) (by decide) (by decide +kernel) rfl rfl (Nat.le_of_ble_eq_true rfl) rfl (fun p l e s m args below meth c D ad tc A base n0 hn0 C => ?_)
  refine gn_aload_n C (pc' := 1) (i := 0) rfl dX9_init_0 rfl rfl ?_
  refine gn_objInit C (pc' := 4) ⟨Nat.le_of_ble_eq_true rfl, Nat.le_of_ble_eq_true rfl⟩ rfl dX9_init_1 wo_X9 w_obj rfl ?_
  refine gn_aload_n C (pc' := 5) (i := 0) rfl dX9_init_4 rfl rfl ?_
  refine gn_bipush C (pc' := 7) (v := 6) rfl dX9_init_5 (by decide) ?_
  refine gn_newa C (pc' := 9) (N := 6) rfl dX9_init_7 w_arrI (by decide) (by decide) (by decide) (by decide) (by decide) (by decide) ?_
  have h := ab_al_h h
  refine gn_putF C (pc' := 12) (ty := .array .int) rfl dX9_init_9 wf_X9_9 ⟨⟨tyX9, tyX9_ok⟩, nmX9, rfl⟩ rfl (fun _ => rfl) (by decide +kernel) h (fun w2 h => ?_)
  refine gn_aload_n C (pc' := 13) (i := 0) rfl dX9_init_12 rfl rfl ?_
  refine gn_iconst C (pc' := 14) (v := 4) rfl dX9_init_13 (by decide) ?_
  refine gn_newq C (pc' := 17) (N := 4) (t := 3) rfl dX9_init_14 wc_X9_13 C.2.2.2.2.1.2.2 rfl (by decide) (by decide) (by decide) (by decide) (by decide) (by decide) ?_
  have h := ab_al_h h
  refine gn_putF C (pc' := 20) (ty := .array (.object RX5)) rfl dX9_init_17 wf_X9_15 ⟨⟨tyX9, tyX9_ok⟩, nmX9, rfl⟩ rfl (fun _ => rfl) (by decide +kernel) h (fun w4 h => ?_)
  refine gn_iconst C (pc' := 21) (v := 0) rfl dX9_init_20 (by decide) ?_
  refine gn_istore_n C (pc' := 22) (i := 1) (lv' := [_, _]) rfl dX9_init_21 rfl (by decide) rfl rfl ?_
  refine gn_iload_n C (pc' := 23) (i := 1) rfl dX9_init_22 rfl rfl ?_
  refine gn_iconst C (pc' := 24) (v := 4) rfl dX9_init_23 (by decide) ?_
  refine gn_ge_F C (pc' := 27) (tgt := 46) rfl dX9_init_24 rfl (by decide) ?_
  refine gn_aload_n C (pc' := 28) (i := 0) rfl dX9_init_27 rfl rfl ?_
  refine gn_getR C (pc' := 31) rfl dX9_init_28 wf_X9_15 h (fun v5 h => ?_)
  refine gn_iload_n C (pc' := 32) (i := 1) rfl dX9_init_31 rfl rfl ?_
  refine gn_new C (pc' := 35) (ci := 5) (fs := [.null, .int 0, .int 0]) tyX5 rfl dX9_init_32 wn_X9_13 iX5 rfl tyX5_ok (fun j hj => by rcases (show j = 0 ∨ j = 1 ∨ j = 2 by omega) with rfl | rfl | rfl <;> rfl) (by decide) (by decide) (by decide) ?_
  have h := ab_al_h h
  refine gn_dup C (pc' := 36) rfl dX9_init_35 rfl ?_
  refine gn_callI C (pc' := 39) rfl dX9_init_36 wm_X9_19 uX5_init.1 uX5_init.2 rfl h (kX5_init _ _) (by decide) (by decide) (by decide) (by decide) (by decide) (Nat.le_of_ble_eq_true rfl) (fun w7 h => ?_)
  refine gn_aast C (pc' := 40) (t := 3) (ci := 5) rfl dX9_init_39 rfl rfl h (fun w8 h => ?_)
  refine gn_iinc C (pc' := 43) (i := 1) (v := 1) (lv' := [_, _]) rfl dX9_init_40 rfl (by decide) (by decide) rfl rfl ?_
  refine gn_goto C (tgt := 22) dX9_init_43 rfl ?_
  refine gn_iload_n C (pc' := 23) (i := 1) rfl dX9_init_22 rfl rfl ?_
  refine gn_iconst C (pc' := 24) (v := 4) rfl dX9_init_23 (by decide) ?_
  refine gn_ge_F C (pc' := 27) (tgt := 46) rfl dX9_init_24 rfl (by decide) ?_
  refine gn_aload_n C (pc' := 28) (i := 0) rfl dX9_init_27 rfl rfl ?_
  refine gn_getR C (pc' := 31) rfl dX9_init_28 wf_X9_15 h (fun v9 h => ?_)
  refine gn_iload_n C (pc' := 32) (i := 1) rfl dX9_init_31 rfl rfl ?_
  refine gn_new C (pc' := 35) (ci := 5) (fs := [.null, .int 0, .int 0]) tyX5 rfl dX9_init_32 wn_X9_13 iX5 rfl tyX5_ok (fun j hj => by rcases (show j = 0 ∨ j = 1 ∨ j = 2 by omega) with rfl | rfl | rfl <;> rfl) (by decide) (by decide) (by decide) ?_
  have h := ab_al_h h
  refine gn_dup C (pc' := 36) rfl dX9_init_35 rfl ?_
  refine gn_callI C (pc' := 39) rfl dX9_init_36 wm_X9_19 uX5_init.1 uX5_init.2 rfl h (kX5_init _ _) (by decide) (by decide) (by decide) (by decide) (by decide) (Nat.le_of_ble_eq_true rfl) (fun w11 h => ?_)
  refine gn_aast C (pc' := 40) (t := 3) (ci := 5) rfl dX9_init_39 rfl rfl h (fun w12 h => ?_)
  refine gn_iinc C (pc' := 43) (i := 1) (v := 2) (lv' := [_, _]) rfl dX9_init_40 rfl (by decide) (by decide) rfl rfl ?_
  refine gn_goto C (tgt := 22) dX9_init_43 rfl ?_
  refine gn_iload_n C (pc' := 23) (i := 1) rfl dX9_init_22 rfl rfl ?_
  refine gn_iconst C (pc' := 24) (v := 4) rfl dX9_init_23 (by decide) ?_
  refine gn_ge_F C (pc' := 27) (tgt := 46) rfl dX9_init_24 rfl (by decide) ?_
  refine gn_aload_n C (pc' := 28) (i := 0) rfl dX9_init_27 rfl rfl ?_
  refine gn_getR C (pc' := 31) rfl dX9_init_28 wf_X9_15 h (fun v13 h => ?_)
  refine gn_iload_n C (pc' := 32) (i := 1) rfl dX9_init_31 rfl rfl ?_
  refine gn_new C (pc' := 35) (ci := 5) (fs := [.null, .int 0, .int 0]) tyX5 rfl dX9_init_32 wn_X9_13 iX5 rfl tyX5_ok (fun j hj => by rcases (show j = 0 ∨ j = 1 ∨ j = 2 by omega) with rfl | rfl | rfl <;> rfl) (by decide) (by decide) (by decide) ?_
  have h := ab_al_h h
  refine gn_dup C (pc' := 36) rfl dX9_init_35 rfl ?_
  refine gn_callI C (pc' := 39) rfl dX9_init_36 wm_X9_19 uX5_init.1 uX5_init.2 rfl h (kX5_init _ _) (by decide) (by decide) (by decide) (by decide) (by decide) (Nat.le_of_ble_eq_true rfl) (fun w15 h => ?_)
  refine gn_aast C (pc' := 40) (t := 3) (ci := 5) rfl dX9_init_39 rfl rfl h (fun w16 h => ?_)
  refine gn_iinc C (pc' := 43) (i := 1) (v := 3) (lv' := [_, _]) rfl dX9_init_40 rfl (by decide) (by decide) rfl rfl ?_
  refine gn_goto C (tgt := 22) dX9_init_43 rfl ?_
  refine gn_iload_n C (pc' := 23) (i := 1) rfl dX9_init_22 rfl rfl ?_
  refine gn_iconst C (pc' := 24) (v := 4) rfl dX9_init_23 (by decide) ?_
  refine gn_ge_F C (pc' := 27) (tgt := 46) rfl dX9_init_24 rfl (by decide) ?_
  refine gn_aload_n C (pc' := 28) (i := 0) rfl dX9_init_27 rfl rfl ?_
  refine gn_getR C (pc' := 31) rfl dX9_init_28 wf_X9_15 h (fun v17 h => ?_)
  refine gn_iload_n C (pc' := 32) (i := 1) rfl dX9_init_31 rfl rfl ?_
  refine gn_new C (pc' := 35) (ci := 5) (fs := [.null, .int 0, .int 0]) tyX5 rfl dX9_init_32 wn_X9_13 iX5 rfl tyX5_ok (fun j hj => by rcases (show j = 0 ∨ j = 1 ∨ j = 2 by omega) with rfl | rfl | rfl <;> rfl) (by decide) (by decide) (by decide) ?_
  have h := ab_al_h h
  refine gn_dup C (pc' := 36) rfl dX9_init_35 rfl ?_
  refine gn_callI C (pc' := 39) rfl dX9_init_36 wm_X9_19 uX5_init.1 uX5_init.2 rfl h (kX5_init _ _) (by decide) (by decide) (by decide) (by decide) (by decide) (Nat.le_of_ble_eq_true rfl) (fun w19 h => ?_)
  refine gn_aast C (pc' := 40) (t := 3) (ci := 5) rfl dX9_init_39 rfl rfl h (fun w20 h => ?_)
  refine gn_iinc C (pc' := 43) (i := 1) (v := 4) (lv' := [_, _]) rfl dX9_init_40 rfl (by decide) (by decide) rfl rfl ?_
  refine gn_goto C (tgt := 22) dX9_init_43 rfl ?_
  refine gn_iload_n C (pc' := 23) (i := 1) rfl dX9_init_22 rfl rfl ?_
  refine gn_iconst C (pc' := 24) (v := 4) rfl dX9_init_23 (by decide) ?_
  refine gn_ge_T C (tgt := 46) dX9_init_24 rfl (by decide) ?_
  refine gn_aload_n C (pc' := 47) (i := 0) rfl dX9_init_46 rfl rfl ?_
  refine gn_new C (pc' := 50) (ci := 6) (fs := [.null, .null, .null, .null, .null]) tyX6 rfl dX9_init_47 wn_X9_20 iX6 rfl tyX6_ok (fun j hj => by rcases (show j = 0 ∨ j = 1 ∨ j = 2 ∨ j = 3 ∨ j = 4 by omega) with rfl | rfl | rfl | rfl | rfl <;> rfl) (by decide) (by decide) (by decide) ?_
  have h := ab_al_h h
  refine gn_dup C (pc' := 51) rfl dX9_init_50 rfl ?_
  refine gn_callI C (pc' := 54) rfl dX9_init_51 wm_X9_22 uX6_init.1 uX6_init.2 rfl h (kX6_init _ _) (by decide) (by decide) (by decide) (by decide) (by decide) (Nat.le_of_ble_eq_true rfl) (fun w22 h => ?_)
  refine gn_putF C (pc' := 57) (ty := .object RX6) rfl dX9_init_54 wf_X9_23 ⟨⟨tyX9, tyX9_ok⟩, nmX9, rfl⟩ rfl (fun _ => rfl) (by decide +kernel) h (fun w23 h => ?_)
  refine gn_aload_n C (pc' := 58) (i := 0) rfl dX9_init_57 rfl rfl ?_
  refine gn_new C (pc' := 61) (ci := 0) (fs := [.null, .null, .null, .null, .int 0, .int 0, .int 0, .int 0, .int 0, .int 0]) tyX0 rfl dX9_init_58 wn_X9_27 iX0 rfl tyX0_ok (fun j hj => by rcases (show j = 0 ∨ j = 1 ∨ j = 2 ∨ j = 3 ∨ j = 4 ∨ j = 5 ∨ j = 6 ∨ j = 7 ∨ j = 8 ∨ j = 9 by omega) with rfl | rfl | rfl | rfl | rfl | rfl | rfl | rfl | rfl | rfl <;> rfl) (by decide) (by decide) (by decide) ?_
  have h := ab_al_h h
  refine gn_dup C (pc' := 62) rfl dX9_init_61 rfl ?_
  refine gn_callI C (pc' := 65) rfl dX9_init_62 wm_X9_29 uX0_init.1 uX0_init.2 rfl h (kX0_init _ _) (by decide) (by decide) (by decide) (by decide) (by decide) (Nat.le_of_ble_eq_true rfl) (fun w25 h => ?_)
  refine gn_putF C (pc' := 68) (ty := .object RX0) rfl dX9_init_65 wf_X9_30 ⟨⟨tyX9, tyX9_ok⟩, nmX9, rfl⟩ rfl (fun _ => rfl) (by decide +kernel) h (fun w26 h => ?_)
  refine gn_aload_n C (pc' := 69) (i := 0) rfl dX9_init_68 rfl rfl ?_
  refine gn_new C (pc' := 72) (ci := 0) (fs := [.null, .null, .null, .null, .int 0, .int 0, .int 0, .int 0, .int 0, .int 0]) tyX0 rfl dX9_init_69 wn_X9_27 iX0 rfl tyX0_ok (fun j hj => by rcases (show j = 0 ∨ j = 1 ∨ j = 2 ∨ j = 3 ∨ j = 4 ∨ j = 5 ∨ j = 6 ∨ j = 7 ∨ j = 8 ∨ j = 9 by omega) with rfl | rfl | rfl | rfl | rfl | rfl | rfl | rfl | rfl | rfl <;> rfl) (by decide) (by decide) (by decide) ?_
  have h := ab_al_h h
  refine gn_dup C (pc' := 73) rfl dX9_init_72 rfl ?_
  refine gn_callI C (pc' := 76) rfl dX9_init_73 wm_X9_29 uX0_init.1 uX0_init.2 rfl h (kX0_init _ _) (by decide) (by decide) (by decide) (by decide) (by decide) (Nat.le_of_ble_eq_true rfl) (fun w28 h => ?_)
  refine gn_putF C (pc' := 79) (ty := .object RX0) rfl dX9_init_76 wf_X9_34 ⟨⟨tyX9, tyX9_ok⟩, nmX9, rfl⟩ rfl (fun _ => rfl) (by decide +kernel) h (fun w29 h => ?_)
  refine gn_aload_n C (pc' := 80) (i := 0) rfl dX9_init_79 rfl rfl ?_
  refine gn_new C (pc' := 83) (ci := 7) (fs := [.int 0, .int 0, .int 0, .int 0, .null, .null]) tyX7 rfl dX9_init_80 wn_X9_37 iX7 rfl tyX7_ok (fun j hj => by rcases (show j = 0 ∨ j = 1 ∨ j = 2 ∨ j = 3 ∨ j = 4 ∨ j = 5 by omega) with rfl | rfl | rfl | rfl | rfl | rfl <;> rfl) (by decide) (by decide) (by decide) ?_
  have h := ab_al_h h
  refine gn_dup C (pc' := 84) rfl dX9_init_83 rfl ?_
  refine gn_callI C (pc' := 87) rfl dX9_init_84 wm_X9_39 uX7_init.1 uX7_init.2 rfl h (kX7_init _ _) (by decide) (by decide) (by decide) (by decide) (by decide) (Nat.le_of_ble_eq_true rfl) (fun w31 h => ?_)
  refine gn_putF C (pc' := 90) (ty := .object RX7) rfl dX9_init_87 wf_X9_40 ⟨⟨tyX9, tyX9_ok⟩, nmX9, rfl⟩ rfl (fun _ => rfl) (by decide +kernel) h (fun w32 h => ?_)
  refine gn_aload_n C (pc' := 91) (i := 0) rfl dX9_init_90 rfl rfl ?_
  refine gn_new C (pc' := 94) (ci := 4) (fs := [.null, .int 0, .null, .int 0, .int 0]) tyX4 rfl dX9_init_91 wn_X9_44 iX4 rfl tyX4_ok (fun j hj => by rcases (show j = 0 ∨ j = 1 ∨ j = 2 ∨ j = 3 ∨ j = 4 by omega) with rfl | rfl | rfl | rfl | rfl <;> rfl) (by decide) (by decide) (by decide) ?_
  have h := ab_al_h h
  refine gn_dup C (pc' := 95) rfl dX9_init_94 rfl ?_
  refine gn_callI C (pc' := 98) rfl dX9_init_95 wm_X9_46 uX4_init.1 uX4_init.2 rfl h (kX4_init _ _) (by decide) (by decide) (by decide) (by decide) (by decide) (Nat.le_of_ble_eq_true rfl) (fun w34 h => ?_)
  refine gn_putF C (pc' := 101) (ty := .object RX4) rfl dX9_init_98 wf_X9_47 ⟨⟨tyX9, tyX9_ok⟩, nmX9, rfl⟩ rfl (fun _ => rfl) (by decide +kernel) h (fun w35 h => ?_)
  refine gn_aload_n C (pc' := 102) (i := 0) rfl dX9_init_101 rfl rfl ?_
  refine gn_new C (pc' := 105) (ci := 8) (fs := [.null, .int 0, .int 0, .int 0, .int 0]) tyX8 rfl dX9_init_102 wn_X9_51 iX8 rfl tyX8_ok (fun j hj => by rcases (show j = 0 ∨ j = 1 ∨ j = 2 ∨ j = 3 ∨ j = 4 by omega) with rfl | rfl | rfl | rfl | rfl <;> rfl) (by decide) (by decide) (by decide) ?_
  have h := ab_al_h h
  refine gn_dup C (pc' := 106) rfl dX9_init_105 rfl ?_
  refine gn_callI C (pc' := 109) rfl dX9_init_106 wm_X9_53 uX8_init.1 uX8_init.2 rfl h (kX8_init _ _) (by decide) (by decide) (by decide) (by decide) (by decide) (Nat.le_of_ble_eq_true rfl) (fun w37 h => ?_)
  refine gn_putF C (pc' := 112) (ty := .object RX8) rfl dX9_init_109 wf_X9_54 ⟨⟨tyX9, tyX9_ok⟩, nmX9, rfl⟩ rfl (fun _ => rfl) (by decide +kernel) h (fun w38 h => ?_)
  refine gn_aload_n C (pc' := 113) (i := 0) rfl dX9_init_112 rfl rfl ?_
  refine gn_iconst C (pc' := 114) (v := 0) rfl dX9_init_113 (by decide) ?_
  refine gn_putI C (pc' := 117) (ty := .int) rfl dX9_init_114 wf_X9_58 wp_X9_8 rfl h (fun w39 h => ?_)
  exact gn_vret C dX9_init_117 h
def sX10_init (x0 : Nat) (w : ab_W) : Option ab_W :=
  if ab_is w 10 x0 = true then
    ab_al w (.inl (0, 226, .inl (fun _ => 0))) fun w1 =>
    (ab_putR w1 10 x0 0 (List.length w)).bind fun w2 =>
    ab_al w2 (.inl (0, 226, .inl (fun _ => 0))) fun w3 =>
    (ab_putR w3 10 x0 1 (List.length w2)).bind fun w4 =>
    ab_al w4 (.inl (0, 226, .inl (fun _ => 0))) fun w5 =>
    (ab_putR w5 10 x0 2 (List.length w4)).bind fun w6 =>
    ab_al w6 (.inl (0, 226, .inl (fun _ => 0))) fun w7 =>
    (ab_putR w7 10 x0 3 (List.length w6)).bind fun w8 =>
    ab_al w8 (.inl (0, 6, .inl (fun _ => 0))) fun w9 =>
    (ab_putR w9 10 x0 6 (List.length w8)).bind fun w10 =>
    ab_al w10 (.inl (0, 16, .inl (fun _ => 0))) fun w11 =>
    (ab_putR w11 10 x0 15 (List.length w10)).bind fun w12 =>
    ab_al w12 (.inl (0, 128, .inl (fun _ => 0))) fun w13 =>
    (ab_putR w13 10 x0 16 (List.length w12)).bind fun w14 =>
    ab_al w14 (.inl (0, 4, .inl (fun _ => 0))) fun w15 =>
    (ab_putR w15 10 x0 17 (List.length w14)).bind fun w16 =>
    ab_al w16 (.inl (0, 4, .inl (fun _ => 0))) fun w17 =>
    (ab_putR w17 10 x0 18 (List.length w16)).bind fun w18 =>
    ab_al w18 (.inl (0, 160, .inl (fun _ => 0))) fun w19 =>
    (ab_putR w19 10 x0 19 (List.length w18)).bind fun w20 =>
    ab_al w20 (.inl (0, 40, .inl (fun _ => 0))) fun w21 =>
    (ab_putR w21 10 x0 20 (List.length w20)).bind fun w22 =>
    ab_al w22 (.inl (0, 40, .inl (fun _ => 0))) fun w23 =>
    (ab_putR w23 10 x0 21 (List.length w22)).bind fun w24 =>
    (ab_getR w24 10 x0 0).bind fun v25 =>
    (ab_ast w24 v25 1 1).bind fun w26 =>
    (ab_getR w26 10 x0 0).bind fun v27 =>
    (ab_ast w26 v27 5 (-1)).bind fun w28 =>
    (ab_getR w28 10 x0 0).bind fun v29 =>
    (ab_ast w28 v29 6 (-1)).bind fun w30 =>
    some w30
  else none
set_option maxHeartbeats 4000000 in
set_option maxRecDepth 100000 in
theorem kX10_init : ∀ (x0 : Nat) (w : ab_W) (w1 : ab_W), sX10_init x0 w = some w1 → gn_M yX10_init cX10_init 1 1 800 12 1302 [.ref x0] w w1 := by
  intro x0 w w1 h
  unfold sX10_init at h
  obtain ⟨hi, h⟩ := ab_ite h
  refine gn_M_of RX10 [some (.ref x0)] (ab_is_pos hi) (by decide) (by decide +kernel) rfl rfl (Nat.le_of_ble_eq_true rfl) rfl (fun p l e s m args below meth c D ad tc A base n0 hn0 C => ?_)
  refine gn_aload_n C (pc' := 1) (i := 0) rfl dX10_init_0 rfl rfl ?_
  refine gn_objInit C (pc' := 4) ⟨Nat.le_of_ble_eq_true rfl, Nat.le_of_ble_eq_true rfl⟩ rfl dX10_init_1 wo_X10 w_obj rfl ?_
  refine gn_aload_n C (pc' := 5) (i := 0) rfl dX10_init_4 rfl rfl ?_
  refine gn_sipush C (pc' := 8) (v := 226) rfl dX10_init_5 (by decide) ?_
  refine gn_newa C (pc' := 10) (N := 226) rfl dX10_init_8 w_arrI (by decide) (by decide) (by decide) (by decide) (by decide) (by decide) ?_
  have h := ab_al_h h
  refine gn_putF C (pc' := 13) (ty := .array .int) rfl dX10_init_10 wf_X10_7 ⟨⟨tyX10, tyX10_ok⟩, nmX10, rfl⟩ rfl (fun _ => rfl) (by decide +kernel) h (fun w2 h => ?_)
  refine gn_aload_n C (pc' := 14) (i := 0) rfl dX10_init_13 rfl rfl ?_
  refine gn_sipush C (pc' := 17) (v := 226) rfl dX10_init_14 (by decide) ?_
  refine gn_newa C (pc' := 19) (N := 226) rfl dX10_init_17 w_arrI (by decide) (by decide) (by decide) (by decide) (by decide) (by decide) ?_
  have h := ab_al_h h
  refine gn_putF C (pc' := 22) (ty := .array .int) rfl dX10_init_19 wf_X10_13 ⟨⟨tyX10, tyX10_ok⟩, nmX10, rfl⟩ rfl (fun _ => rfl) (by decide +kernel) h (fun w4 h => ?_)
  refine gn_aload_n C (pc' := 23) (i := 0) rfl dX10_init_22 rfl rfl ?_
  refine gn_sipush C (pc' := 26) (v := 226) rfl dX10_init_23 (by decide) ?_
  refine gn_newa C (pc' := 28) (N := 226) rfl dX10_init_26 w_arrI (by decide) (by decide) (by decide) (by decide) (by decide) (by decide) ?_
  have h := ab_al_h h
  refine gn_putF C (pc' := 31) (ty := .array .int) rfl dX10_init_28 wf_X10_16 ⟨⟨tyX10, tyX10_ok⟩, nmX10, rfl⟩ rfl (fun _ => rfl) (by decide +kernel) h (fun w6 h => ?_)
  refine gn_aload_n C (pc' := 32) (i := 0) rfl dX10_init_31 rfl rfl ?_
  refine gn_sipush C (pc' := 35) (v := 226) rfl dX10_init_32 (by decide) ?_
  refine gn_newa C (pc' := 37) (N := 226) rfl dX10_init_35 w_arrI (by decide) (by decide) (by decide) (by decide) (by decide) (by decide) ?_
  have h := ab_al_h h
  refine gn_putF C (pc' := 40) (ty := .array .int) rfl dX10_init_37 wf_X10_19 ⟨⟨tyX10, tyX10_ok⟩, nmX10, rfl⟩ rfl (fun _ => rfl) (by decide +kernel) h (fun w8 h => ?_)
  refine gn_aload_n C (pc' := 41) (i := 0) rfl dX10_init_40 rfl rfl ?_
  refine gn_bipush C (pc' := 43) (v := 6) rfl dX10_init_41 (by decide) ?_
  refine gn_newa C (pc' := 45) (N := 6) rfl dX10_init_43 w_arrI (by decide) (by decide) (by decide) (by decide) (by decide) (by decide) ?_
  have h := ab_al_h h
  refine gn_putF C (pc' := 48) (ty := .array .int) rfl dX10_init_45 wf_X10_22 ⟨⟨tyX10, tyX10_ok⟩, nmX10, rfl⟩ rfl (fun _ => rfl) (by decide +kernel) h (fun w10 h => ?_)
  refine gn_aload_n C (pc' := 49) (i := 0) rfl dX10_init_48 rfl rfl ?_
  refine gn_bipush C (pc' := 51) (v := 16) rfl dX10_init_49 (by decide) ?_
  refine gn_newa C (pc' := 53) (N := 16) rfl dX10_init_51 w_arrI (by decide) (by decide) (by decide) (by decide) (by decide) (by decide) ?_
  have h := ab_al_h h
  refine gn_putF C (pc' := 56) (ty := .array .int) rfl dX10_init_53 wf_X10_25 ⟨⟨tyX10, tyX10_ok⟩, nmX10, rfl⟩ rfl (fun _ => rfl) (by decide +kernel) h (fun w12 h => ?_)
  refine gn_aload_n C (pc' := 57) (i := 0) rfl dX10_init_56 rfl rfl ?_
  refine gn_sipush C (pc' := 60) (v := 128) rfl dX10_init_57 (by decide) ?_
  refine gn_newa C (pc' := 62) (N := 128) rfl dX10_init_60 w_arrI (by decide) (by decide) (by decide) (by decide) (by decide) (by decide) ?_
  have h := ab_al_h h
  refine gn_putF C (pc' := 65) (ty := .array .int) rfl dX10_init_62 wf_X10_28 ⟨⟨tyX10, tyX10_ok⟩, nmX10, rfl⟩ rfl (fun _ => rfl) (by decide +kernel) h (fun w14 h => ?_)
  refine gn_aload_n C (pc' := 66) (i := 0) rfl dX10_init_65 rfl rfl ?_
  refine gn_iconst C (pc' := 67) (v := 4) rfl dX10_init_66 (by decide) ?_
  refine gn_newa C (pc' := 69) (N := 4) rfl dX10_init_67 w_arrI (by decide) (by decide) (by decide) (by decide) (by decide) (by decide) ?_
  have h := ab_al_h h
  refine gn_putF C (pc' := 72) (ty := .array .int) rfl dX10_init_69 wf_X10_31 ⟨⟨tyX10, tyX10_ok⟩, nmX10, rfl⟩ rfl (fun _ => rfl) (by decide +kernel) h (fun w16 h => ?_)
  refine gn_aload_n C (pc' := 73) (i := 0) rfl dX10_init_72 rfl rfl ?_
  refine gn_iconst C (pc' := 74) (v := 4) rfl dX10_init_73 (by decide) ?_
  refine gn_newa C (pc' := 76) (N := 4) rfl dX10_init_74 w_arrI (by decide) (by decide) (by decide) (by decide) (by decide) (by decide) ?_
  have h := ab_al_h h
  refine gn_putF C (pc' := 79) (ty := .array .int) rfl dX10_init_76 wf_X10_34 ⟨⟨tyX10, tyX10_ok⟩, nmX10, rfl⟩ rfl (fun _ => rfl) (by decide +kernel) h (fun w18 h => ?_)
  refine gn_aload_n C (pc' := 80) (i := 0) rfl dX10_init_79 rfl rfl ?_
  refine gn_sipush C (pc' := 83) (v := 160) rfl dX10_init_80 (by decide) ?_
  refine gn_newa C (pc' := 85) (N := 160) rfl dX10_init_83 w_arrI (by decide) (by decide) (by decide) (by decide) (by decide) (by decide) ?_
  have h := ab_al_h h
  refine gn_putF C (pc' := 88) (ty := .array .int) rfl dX10_init_85 wf_X10_37 ⟨⟨tyX10, tyX10_ok⟩, nmX10, rfl⟩ rfl (fun _ => rfl) (by decide +kernel) h (fun w20 h => ?_)
  refine gn_aload_n C (pc' := 89) (i := 0) rfl dX10_init_88 rfl rfl ?_
  refine gn_bipush C (pc' := 91) (v := 40) rfl dX10_init_89 (by decide) ?_
  refine gn_newa C (pc' := 93) (N := 40) rfl dX10_init_91 w_arrI (by decide) (by decide) (by decide) (by decide) (by decide) (by decide) ?_
  have h := ab_al_h h
  refine gn_putF C (pc' := 96) (ty := .array .int) rfl dX10_init_93 wf_X10_40 ⟨⟨tyX10, tyX10_ok⟩, nmX10, rfl⟩ rfl (fun _ => rfl) (by decide +kernel) h (fun w22 h => ?_)
  refine gn_aload_n C (pc' := 97) (i := 0) rfl dX10_init_96 rfl rfl ?_
  refine gn_bipush C (pc' := 99) (v := 40) rfl dX10_init_97 (by decide) ?_
  refine gn_newa C (pc' := 101) (N := 40) rfl dX10_init_99 w_arrI (by decide) (by decide) (by decide) (by decide) (by decide) (by decide) ?_
  have h := ab_al_h h
  refine gn_putF C (pc' := 104) (ty := .array .int) rfl dX10_init_101 wf_X10_43 ⟨⟨tyX10, tyX10_ok⟩, nmX10, rfl⟩ rfl (fun _ => rfl) (by decide +kernel) h (fun w24 h => ?_)
  refine gn_aload_n C (pc' := 105) (i := 0) rfl dX10_init_104 rfl rfl ?_
  refine gn_getR C (pc' := 108) rfl dX10_init_105 wf_X10_7 h (fun v25 h => ?_)
  refine gn_iconst C (pc' := 109) (v := 1) rfl dX10_init_108 (by decide) ?_
  refine gn_iconst C (pc' := 110) (v := 1) rfl dX10_init_109 (by decide) ?_
  refine gn_iast C (pc' := 111) rfl dX10_init_110 h (fun w26 h => ?_)
  refine gn_aload_n C (pc' := 112) (i := 0) rfl dX10_init_111 rfl rfl ?_
  refine gn_getR C (pc' := 115) rfl dX10_init_112 wf_X10_7 h (fun v27 h => ?_)
  refine gn_iconst C (pc' := 116) (v := 5) rfl dX10_init_115 (by decide) ?_
  refine gn_iconst C (pc' := 117) (v := (-1)) rfl dX10_init_116 (by decide) ?_
  refine gn_iast C (pc' := 118) rfl dX10_init_117 h (fun w28 h => ?_)
  refine gn_aload_n C (pc' := 119) (i := 0) rfl dX10_init_118 rfl rfl ?_
  refine gn_getR C (pc' := 122) rfl dX10_init_119 wf_X10_7 h (fun v29 h => ?_)
  refine gn_bipush C (pc' := 124) (v := 6) rfl dX10_init_122 (by decide) ?_
  refine gn_iconst C (pc' := 125) (v := (-1)) rfl dX10_init_124 (by decide) ?_
  refine gn_iast C (pc' := 126) rfl dX10_init_125 h (fun w30 h => ?_)
  exact gn_vret C dX10_init_126 h
