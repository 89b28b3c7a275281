/-- what the tables say of a field that an instruction names -/
def gj_F (own : String) (idx ci i : Nat) (C0 : String) (T : u_T) (N : Nat) : Prop := vwCl[ci]? = some (C0, T, N) ∧ i < N ∧ (∀ w ∈ u_ws C0 T N, w ∈ gj_tb) ∧ Cond.fieldLink own idx C0 (T i).2.1 (T i).2.2.1 ∈ gj_tb ∧ (T i).1 = C0
def gj_FP (T : u_T) (i N : Nat) : Prop := (∃ tys : Nat → FieldType, ∀ k, k < N → parseFieldDescriptor (T k).2.2.1 = some (tys k)) ∧ (∀ a, a < N → ∀ b, b < N → a ≠ b → (T a).2.1 ≠ (T b).2.1) ∧ (T i).2.2.2 = false
def gj_le : List (Option Value) → List (Option Value) → Prop
  | [], _ => True
  | none :: a, _ :: b => gj_le a b
  | some v :: a, u :: b => u = some v ∧ gj_le a b
  | _ :: _, [] => False
theorem gj_le_get : ∀ {a b : List (Option Value)}, gj_le a b → ∀ (i : Nat) (v : Value), a[i]? = some (some v) → b[i]? = some (some v)
  | [], _, _, _, _, h => by simp at h
  | none :: a, u :: b, hl, i, v, h => by
    match i, h with
    | 0, h => simp at h
    | i + 1, h => exact gj_le_get (a := a) (b := b) hl i v (by simpa using h)
  | some x :: a, u :: b, hl, i, v, h => by
    match i, h with
    | 0, h => simp at h; subst h; simp [hl.1]
    | i + 1, h => exact gj_le_get (a := a) (b := b) hl.2 i v (by simpa using h)
  | none :: _, [], hl, _, _, _ => absurd hl (by simp [gj_le])
  | some _ :: _, [], hl, _, _, _ => absurd hl (by simp [gj_le])
theorem gj_drop {p : Program} {l : Launch} {e : Env} {R : Room} {s : State} {m : MethodId} {args : Array Value} {below : List Frame} {meth : Method} {c : Code} {D : va_G} {ad : Nat → Nat} {tc : Nat → ClassId} {A : Nat → Prop} {nL : Nat} {Q : State → Prop} {pc : Nat} {lv lv' : List (Option Value)} {st : List Value} {w : ab_W} (hl : gj_le lv' lv) (k : gj_G p l e R s m args below meth c D ad tc A nL Q pc lv' st w) : gj_G p l e R s m args below meth c D ad tc A nL Q pc lv st w :=
  fun H locs ls hL hP hD hS => k H locs ls ⟨hL.1, hL.2.1, fun i v h => hL.2.2 i v (gj_le_get hl i v h)⟩ hP hD hS
section GJ
variable {p : Program} {l : Launch} {e : Env} {R : Room} {s : State} {m : MethodId} {args : Array Value} {below : List Frame} {meth : Method} {c : Code} {D : va_G} {ad : Nat → Nat} {tc : Nat → ClassId} {A : Nat → Prop} {nL : Nat} {Q : State → Prop} {pc pc' : Nat} {lv : List (Option Value)} {st : List Value} {w : ab_W} {cc : ByteArray} {ret : Option FieldType} {own : String}
theorem gj_iconst (C : gj_C p s m args meth c D ad tc A cc nL ret own) {n : Int} {v : Int32} (hp : pc + 1 = pc') (hd : decode cc pc = .ok (.iconst n, 1)) (hv : Int32.ofInt n = v) (k : gj_G p l e R s m args below meth c D ad tc A nL Q pc' lv (.int v :: st) w) : gj_G p l e R s m args below meth c D ad tc A nL Q pc lv st w := by
  obtain ⟨hx, hb, hml, hown, hts, hr, hlk, hK, hA, hSt, hNw⟩ := C
  subst hp
  intro H locs ls hL hP hD hS
  exact lv_iconst hx hb hd hv (k H locs ls hL hP hD hS)
theorem gj_bipush (C : gj_C p s m args meth c D ad tc A cc nL ret own) {n : Int} {v : Int32} (hp : pc + 2 = pc') (hd : decode cc pc = .ok (.bipush n, 2)) (hv : (Int8.ofInt n).toInt32 = v) (k : gj_G p l e R s m args below meth c D ad tc A nL Q pc' lv (.int v :: st) w) : gj_G p l e R s m args below meth c D ad tc A nL Q pc lv st w := by
  obtain ⟨hx, hb, hml, hown, hts, hr, hlk, hK, hA, hSt, hNw⟩ := C
  subst hp
  intro H locs ls hL hP hD hS
  exact lv_bipush hx hb hd hv (k H locs ls hL hP hD hS)
theorem gj_sipush (C : gj_C p s m args meth c D ad tc A cc nL ret own) {n : Int} {v : Int32} (hp : pc + 3 = pc') (hd : decode cc pc = .ok (.sipush n, 3)) (hv : (Int16.ofInt n).toInt32 = v) (k : gj_G p l e R s m args below meth c D ad tc A nL Q pc' lv (.int v :: st) w) : gj_G p l e R s m args below meth c D ad tc A nL Q pc lv st w := by
  obtain ⟨hx, hb, hml, hown, hts, hr, hlk, hK, hA, hSt, hNw⟩ := C
  subst hp
  intro H locs ls hL hP hD hS
  exact lv_sipush hx hb hd hv (k H locs ls hL hP hD hS)
theorem gj_iload_n (C : gj_C p s m args meth c D ad tc A cc nL ret own) {k0 : Fin 4} {i : Nat} {x : Int32} (hp : pc + 1 = pc') (hd : decode cc pc = .ok (.iload_n k0, 1)) (hi : (k0 : Nat) = i) (hl : lv[i]? = some (some (.int x))) (k : gj_G p l e R s m args below meth c D ad tc A nL Q pc' lv (.int x :: st) w) : gj_G p l e R s m args below meth c D ad tc A nL Q pc lv st w := by
  obtain ⟨hx, hb, hml, hown, hts, hr, hlk, hK, hA, hSt, hNw⟩ := C
  subst hp
  intro H locs ls hL hP hD hS
  exact lv_iload_n hx hb hd hi (hL.2.2 i _ hl) (k H locs ls hL hP hD hS)
theorem gj_iload (C : gj_C p s m args meth c D ad tc A cc nL ret own) {i : Nat} {x : Int32} (hp : pc + 2 = pc') (hd : decode cc pc = .ok (.iload i, 2)) (hl : lv[i]? = some (some (.int x))) (k : gj_G p l e R s m args below meth c D ad tc A nL Q pc' lv (.int x :: st) w) : gj_G p l e R s m args below meth c D ad tc A nL Q pc lv st w := by
  obtain ⟨hx, hb, hml, hown, hts, hr, hlk, hK, hA, hSt, hNw⟩ := C
  subst hp
  intro H locs ls hL hP hD hS
  exact lv_iload hx hb hd (hL.2.2 i _ hl) (k H locs ls hL hP hD hS)
theorem gj_lload_n (C : gj_C p s m args meth c D ad tc A cc nL ret own) {k0 : Fin 4} {i : Nat} {x : Int64} (hp : pc + 1 = pc') (hd : decode cc pc = .ok (.lload_n k0, 1)) (hi : (k0 : Nat) = i) (hl : lv[i]? = some (some (.long x))) (k : gj_G p l e R s m args below meth c D ad tc A nL Q pc' lv (.long x :: st) w) : gj_G p l e R s m args below meth c D ad tc A nL Q pc lv st w := by
  obtain ⟨hx, hb, hml, hown, hts, hr, hlk, hK, hA, hSt, hNw⟩ := C
  subst hp
  intro H locs ls hL hP hD hS
  exact lv_lload_n hx hb hd hi (hL.2.2 i _ hl) (k H locs ls hL hP hD hS)
theorem gj_aload_n (C : gj_C p s m args meth c D ad tc A cc nL ret own) {k0 : Fin 4} {i : Nat} {x : Nat} (hp : pc + 1 = pc') (hd : decode cc pc = .ok (.aload_n k0, 1)) (hi : (k0 : Nat) = i) (hl : lv[i]? = some (some (.ref x))) (k : gj_G p l e R s m args below meth c D ad tc A nL Q pc' lv (.ref x :: st) w) : gj_G p l e R s m args below meth c D ad tc A nL Q pc lv st w := by
  obtain ⟨hx, hb, hml, hown, hts, hr, hlk, hK, hA, hSt, hNw⟩ := C
  subst hp
  intro H locs ls hL hP hD hS
  exact lv_aload_n hx hb hd hi (hL.2.2 i _ hl) (k H locs ls hL hP hD hS)
theorem gj_aload (C : gj_C p s m args meth c D ad tc A cc nL ret own) {i : Nat} {x : Nat} (hp : pc + 2 = pc') (hd : decode cc pc = .ok (.aload i, 2)) (hl : lv[i]? = some (some (.ref x))) (k : gj_G p l e R s m args below meth c D ad tc A nL Q pc' lv (.ref x :: st) w) : gj_G p l e R s m args below meth c D ad tc A nL Q pc lv st w := by
  obtain ⟨hx, hb, hml, hown, hts, hr, hlk, hK, hA, hSt, hNw⟩ := C
  subst hp
  intro H locs ls hL hP hD hS
  exact lv_aload hx hb hd (hL.2.2 i _ hl) (k H locs ls hL hP hD hS)
theorem gj_iadd (C : gj_C p s m args meth c D ad tc A cc nL ret own) {x y : Int32} (hp : pc + 1 = pc') (hd : decode cc pc = .ok (.iadd, 1))  (k : gj_G p l e R s m args below meth c D ad tc A nL Q pc' lv (.int (x + y) :: st) w) : gj_G p l e R s m args below meth c D ad tc A nL Q pc lv (.int y :: .int x :: st) w := by
  obtain ⟨hx, hb, hml, hown, hts, hr, hlk, hK, hA, hSt, hNw⟩ := C
  subst hp
  intro H locs ls hL hP hD hS
  exact lv_iadd hx hb hd (k H locs ls hL hP hD hS)
theorem gj_isub (C : gj_C p s m args meth c D ad tc A cc nL ret own) {x y : Int32} (hp : pc + 1 = pc') (hd : decode cc pc = .ok (.isub, 1))  (k : gj_G p l e R s m args below meth c D ad tc A nL Q pc' lv (.int (x - y) :: st) w) : gj_G p l e R s m args below meth c D ad tc A nL Q pc lv (.int y :: .int x :: st) w := by
  obtain ⟨hx, hb, hml, hown, hts, hr, hlk, hK, hA, hSt, hNw⟩ := C
  subst hp
  intro H locs ls hL hP hD hS
  exact lv_isub hx hb hd (k H locs ls hL hP hD hS)
theorem gj_imul (C : gj_C p s m args meth c D ad tc A cc nL ret own) {x y : Int32} (hp : pc + 1 = pc') (hd : decode cc pc = .ok (.imul, 1))  (k : gj_G p l e R s m args below meth c D ad tc A nL Q pc' lv (.int (x * y) :: st) w) : gj_G p l e R s m args below meth c D ad tc A nL Q pc lv (.int y :: .int x :: st) w := by
  obtain ⟨hx, hb, hml, hown, hts, hr, hlk, hK, hA, hSt, hNw⟩ := C
  subst hp
  intro H locs ls hL hP hD hS
  exact lv_imul hx hb hd (k H locs ls hL hP hD hS)
theorem gj_iand (C : gj_C p s m args meth c D ad tc A cc nL ret own) {x y : Int32} (hp : pc + 1 = pc') (hd : decode cc pc = .ok (.iand, 1))  (k : gj_G p l e R s m args below meth c D ad tc A nL Q pc' lv (.int (x &&& y) :: st) w) : gj_G p l e R s m args below meth c D ad tc A nL Q pc lv (.int y :: .int x :: st) w := by
  obtain ⟨hx, hb, hml, hown, hts, hr, hlk, hK, hA, hSt, hNw⟩ := C
  subst hp
  intro H locs ls hL hP hD hS
  exact lv_iand hx hb hd (k H locs ls hL hP hD hS)
theorem gj_ior (C : gj_C p s m args meth c D ad tc A cc nL ret own) {x y : Int32} (hp : pc + 1 = pc') (hd : decode cc pc = .ok (.ior, 1))  (k : gj_G p l e R s m args below meth c D ad tc A nL Q pc' lv (.int (x ||| y) :: st) w) : gj_G p l e R s m args below meth c D ad tc A nL Q pc lv (.int y :: .int x :: st) w := by
  obtain ⟨hx, hb, hml, hown, hts, hr, hlk, hK, hA, hSt, hNw⟩ := C
  subst hp
  intro H locs ls hL hP hD hS
  exact lv_ior hx hb hd (k H locs ls hL hP hD hS)
theorem gj_ixor (C : gj_C p s m args meth c D ad tc A cc nL ret own) {x y : Int32} (hp : pc + 1 = pc') (hd : decode cc pc = .ok (.ixor, 1))  (k : gj_G p l e R s m args below meth c D ad tc A nL Q pc' lv (.int (x ^^^ y) :: st) w) : gj_G p l e R s m args below meth c D ad tc A nL Q pc lv (.int y :: .int x :: st) w := by
  obtain ⟨hx, hb, hml, hown, hts, hr, hlk, hK, hA, hSt, hNw⟩ := C
  subst hp
  intro H locs ls hL hP hD hS
  exact lv_ixor hx hb hd (k H locs ls hL hP hD hS)
theorem gj_ishl (C : gj_C p s m args meth c D ad tc A cc nL ret own) {x y : Int32} (hp : pc + 1 = pc') (hd : decode cc pc = .ok (.ishl, 1))  (k : gj_G p l e R s m args below meth c D ad tc A nL Q pc' lv (.int (x <<< (y &&& 31)) :: st) w) : gj_G p l e R s m args below meth c D ad tc A nL Q pc lv (.int y :: .int x :: st) w := by
  obtain ⟨hx, hb, hml, hown, hts, hr, hlk, hK, hA, hSt, hNw⟩ := C
  subst hp
  intro H locs ls hL hP hD hS
  exact lv_ishl hx hb hd (k H locs ls hL hP hD hS)
theorem gj_ishr (C : gj_C p s m args meth c D ad tc A cc nL ret own) {x y : Int32} (hp : pc + 1 = pc') (hd : decode cc pc = .ok (.ishr, 1))  (k : gj_G p l e R s m args below meth c D ad tc A nL Q pc' lv (.int (x >>> (y &&& 31)) :: st) w) : gj_G p l e R s m args below meth c D ad tc A nL Q pc lv (.int y :: .int x :: st) w := by
  obtain ⟨hx, hb, hml, hown, hts, hr, hlk, hK, hA, hSt, hNw⟩ := C
  subst hp
  intro H locs ls hL hP hD hS
  exact lv_ishr hx hb hd (k H locs ls hL hP hD hS)
theorem gj_iushr (C : gj_C p s m args meth c D ad tc A cc nL ret own) {x y : Int32} (hp : pc + 1 = pc') (hd : decode cc pc = .ok (.iushr, 1))  (k : gj_G p l e R s m args below meth c D ad tc A nL Q pc' lv (.int ((x.toUInt32 >>> (y.toUInt32 &&& Int32.toUInt32 31)).toInt32) :: st) w) : gj_G p l e R s m args below meth c D ad tc A nL Q pc lv (.int y :: .int x :: st) w := by
  obtain ⟨hx, hb, hml, hown, hts, hr, hlk, hK, hA, hSt, hNw⟩ := C
  subst hp
  intro H locs ls hL hP hD hS
  exact lv_iushr hx hb hd rfl (k H locs ls hL hP hD hS)
theorem gj_ineg (C : gj_C p s m args meth c D ad tc A cc nL ret own) {x : Int32} (hp : pc + 1 = pc') (hd : decode cc pc = .ok (.ineg, 1))  (k : gj_G p l e R s m args below meth c D ad tc A nL Q pc' lv (.int (-x) :: st) w) : gj_G p l e R s m args below meth c D ad tc A nL Q pc lv (.int x :: st) w := by
  obtain ⟨hx, hb, hml, hown, hts, hr, hlk, hK, hA, hSt, hNw⟩ := C
  subst hp
  intro H locs ls hL hP hD hS
  exact lv_ineg hx hb hd (k H locs ls hL hP hD hS)
theorem gj_i2l (C : gj_C p s m args meth c D ad tc A cc nL ret own) {x : Int32} (hp : pc + 1 = pc') (hd : decode cc pc = .ok (.i2l, 1))  (k : gj_G p l e R s m args below meth c D ad tc A nL Q pc' lv (.long x.toInt64 :: st) w) : gj_G p l e R s m args below meth c D ad tc A nL Q pc lv (.int x :: st) w := by
  obtain ⟨hx, hb, hml, hown, hts, hr, hlk, hK, hA, hSt, hNw⟩ := C
  subst hp
  intro H locs ls hL hP hD hS
  exact lv_i2l hx hb hd rfl (k H locs ls hL hP hD hS)
theorem gj_l2i (C : gj_C p s m args meth c D ad tc A cc nL ret own) {x : Int64} (hp : pc + 1 = pc') (hd : decode cc pc = .ok (.l2i, 1))  (k : gj_G p l e R s m args below meth c D ad tc A nL Q pc' lv (.int x.toInt32 :: st) w) : gj_G p l e R s m args below meth c D ad tc A nL Q pc lv (.long x :: st) w := by
  obtain ⟨hx, hb, hml, hown, hts, hr, hlk, hK, hA, hSt, hNw⟩ := C
  subst hp
  intro H locs ls hL hP hD hS
  exact lv_l2i hx hb hd rfl (k H locs ls hL hP hD hS)
theorem gj_i2b (C : gj_C p s m args meth c D ad tc A cc nL ret own) {x : Int32} (hp : pc + 1 = pc') (hd : decode cc pc = .ok (.i2b, 1))  (k : gj_G p l e R s m args below meth c D ad tc A nL Q pc' lv (.int x.toInt8.toInt32 :: st) w) : gj_G p l e R s m args below meth c D ad tc A nL Q pc lv (.int x :: st) w := by
  obtain ⟨hx, hb, hml, hown, hts, hr, hlk, hK, hA, hSt, hNw⟩ := C
  subst hp
  intro H locs ls hL hP hD hS
  exact lv_i2b hx hb hd rfl (k H locs ls hL hP hD hS)
theorem gj_i2s (C : gj_C p s m args meth c D ad tc A cc nL ret own) {x : Int32} (hp : pc + 1 = pc') (hd : decode cc pc = .ok (.i2s, 1))  (k : gj_G p l e R s m args below meth c D ad tc A nL Q pc' lv (.int x.toInt16.toInt32 :: st) w) : gj_G p l e R s m args below meth c D ad tc A nL Q pc lv (.int x :: st) w := by
  obtain ⟨hx, hb, hml, hown, hts, hr, hlk, hK, hA, hSt, hNw⟩ := C
  subst hp
  intro H locs ls hL hP hD hS
  exact lv_i2s hx hb hd rfl (k H locs ls hL hP hD hS)
theorem gj_land (C : gj_C p s m args meth c D ad tc A cc nL ret own) {x y : Int64} (hp : pc + 1 = pc') (hd : decode cc pc = .ok (.land, 1))  (k : gj_G p l e R s m args below meth c D ad tc A nL Q pc' lv (.long (x &&& y) :: st) w) : gj_G p l e R s m args below meth c D ad tc A nL Q pc lv (.long y :: .long x :: st) w := by
  obtain ⟨hx, hb, hml, hown, hts, hr, hlk, hK, hA, hSt, hNw⟩ := C
  subst hp
  intro H locs ls hL hP hD hS
  exact lv_land hx hb hd (k H locs ls hL hP hD hS)
theorem gj_lor (C : gj_C p s m args meth c D ad tc A cc nL ret own) {x y : Int64} (hp : pc + 1 = pc') (hd : decode cc pc = .ok (.lor, 1))  (k : gj_G p l e R s m args below meth c D ad tc A nL Q pc' lv (.long (x ||| y) :: st) w) : gj_G p l e R s m args below meth c D ad tc A nL Q pc lv (.long y :: .long x :: st) w := by
  obtain ⟨hx, hb, hml, hown, hts, hr, hlk, hK, hA, hSt, hNw⟩ := C
  subst hp
  intro H locs ls hL hP hD hS
  exact lv_lor hx hb hd (k H locs ls hL hP hD hS)
theorem gj_lushr (C : gj_C p s m args meth c D ad tc A cc nL ret own) {x : Int64} {y : Int32} (hp : pc + 1 = pc') (hd : decode cc pc = .ok (.lushr, 1))  (k : gj_G p l e R s m args below meth c D ad tc A nL Q pc' lv (.long ((x.toUInt64 >>> (y.toInt64.toUInt64 &&& Int64.toUInt64 63)).toInt64) :: st) w) : gj_G p l e R s m args below meth c D ad tc A nL Q pc lv (.int y :: .long x :: st) w := by
  obtain ⟨hx, hb, hml, hown, hts, hr, hlk, hK, hA, hSt, hNw⟩ := C
  subst hp
  intro H locs ls hL hP hD hS
  exact lv_lushr hx hb hd rfl (k H locs ls hL hP hD hS)
theorem gj_lshl (C : gj_C p s m args meth c D ad tc A cc nL ret own) {x : Int64} {y : Int32} (hp : pc + 1 = pc') (hd : decode cc pc = .ok (.lshl, 1))  (k : gj_G p l e R s m args below meth c D ad tc A nL Q pc' lv (.long (x <<< (y.toInt64 &&& 63)) :: st) w) : gj_G p l e R s m args below meth c D ad tc A nL Q pc lv (.int y :: .long x :: st) w := by
  obtain ⟨hx, hb, hml, hown, hts, hr, hlk, hK, hA, hSt, hNw⟩ := C
  subst hp
  intro H locs ls hL hP hD hS
  exact lv_lshl hx hb hd rfl (k H locs ls hL hP hD hS)
theorem gj_lshr (C : gj_C p s m args meth c D ad tc A cc nL ret own) {x : Int64} {y : Int32} (hp : pc + 1 = pc') (hd : decode cc pc = .ok (.lshr, 1))  (k : gj_G p l e R s m args below meth c D ad tc A nL Q pc' lv (.long (x >>> (y.toInt64 &&& 63)) :: st) w) : gj_G p l e R s m args below meth c D ad tc A nL Q pc lv (.int y :: .long x :: st) w := by
  obtain ⟨hx, hb, hml, hown, hts, hr, hlk, hK, hA, hSt, hNw⟩ := C
  subst hp
  intro H locs ls hL hP hD hS
  exact lv_lshr hx hb hd rfl (k H locs ls hL hP hD hS)
theorem gj_dup (C : gj_C p s m args meth c D ad tc A cc nL ret own) {v : Value} (hp : pc + 1 = pc') (hd : decode cc pc = .ok (.dup, 1)) (hc : v.category = 1) (k : gj_G p l e R s m args below meth c D ad tc A nL Q pc' lv (v :: v :: st) w) : gj_G p l e R s m args below meth c D ad tc A nL Q pc lv (v :: st) w := by
  obtain ⟨hx, hb, hml, hown, hts, hr, hlk, hK, hA, hSt, hNw⟩ := C
  subst hp
  intro H locs ls hL hP hD hS
  exact lv_dup hx hb hd (by rw [ab_v_cat]; exact hc) (k H locs ls hL hP hD hS)
theorem gj_dup2 (C : gj_C p s m args meth c D ad tc A cc nL ret own) {v u : Value} (hp : pc + 1 = pc') (hd : decode cc pc = .ok (.dup2, 1)) (hc : v.category = 1) (hc2 : u.category = 1) (k : gj_G p l e R s m args below meth c D ad tc A nL Q pc' lv (v :: u :: v :: u :: st) w) : gj_G p l e R s m args below meth c D ad tc A nL Q pc lv (v :: u :: st) w := by
  obtain ⟨hx, hb, hml, hown, hts, hr, hlk, hK, hA, hSt, hNw⟩ := C
  subst hp
  intro H locs ls hL hP hD hS
  exact lv_dup2_11 hx hb hd (by rw [ab_v_cat]; exact hc) (by rw [ab_v_cat]; exact hc2) (k H locs ls hL hP hD hS)
theorem gj_ldc (C : gj_C p s m args meth c D ad tc A cc nL ret own) {idx : Nat} {v : Int32} (hp : pc + 2 = pc') (hd : decode cc pc = .ok (.ldc idx, 2)) (hc : Cond.constant own idx v ∈ gj_tb) (k : gj_G p l e R s m args below meth c D ad tc A nL Q pc' lv (.int v :: st) w) : gj_G p l e R s m args below meth c D ad tc A nL Q pc lv st w := by
  obtain ⟨hx, hb, hml, hown, hts, hr, hlk, hK, hA, hSt, hNw⟩ := C
  subst hp
  intro H locs ls hL hP hD hS
  exact lv_ldc hx hb hown (hts _ hc) hd (k H locs ls hL hP hD hS)
theorem gj_ldc_w (C : gj_C p s m args meth c D ad tc A cc nL ret own) {idx : Nat} {v : Int32} (hp : pc + 3 = pc') (hd : decode cc pc = .ok (.ldc_w idx, 3)) (hc : Cond.constant own idx v ∈ gj_tb) (k : gj_G p l e R s m args below meth c D ad tc A nL Q pc' lv (.int v :: st) w) : gj_G p l e R s m args below meth c D ad tc A nL Q pc lv st w := by
  obtain ⟨hx, hb, hml, hown, hts, hr, hlk, hK, hA, hSt, hNw⟩ := C
  subst hp
  intro H locs ls hL hP hD hS
  exact lv_ldcw hx hb hown (hts _ hc) hd (k H locs ls hL hP hD hS)
theorem gj_ldc2 (C : gj_C p s m args meth c D ad tc A cc nL ret own) {idx : Nat} {v : Int64} (hp : pc + 3 = pc') (hd : decode cc pc = .ok (.ldc2_w idx, 3)) (hc : Cond.constantLong own idx v ∈ gj_tb) (k : gj_G p l e R s m args below meth c D ad tc A nL Q pc' lv (.long v :: st) w) : gj_G p l e R s m args below meth c D ad tc A nL Q pc lv st w := by
  obtain ⟨hx, hb, hml, hown, hts, hr, hlk, hK, hA, hSt, hNw⟩ := C
  subst hp
  intro H locs ls hL hP hD hS
  exact lv_ldc2 hx hb hown (hts _ hc) hd (k H locs ls hL hP hD hS)
theorem gj_idiv (C : gj_C p s m args meth c D ad tc A cc nL ret own) {x y : Int32} {α : Type} {f : Int32 → Option α} {r : α} (hp : pc + 1 = pc') (hd : decode cc pc = .ok (.idiv, 1))  (h : (ab_div x y).bind f = some r) (k : ∀ v, f v = some r → gj_G p l e R s m args below meth c D ad tc A nL Q pc' lv (.int v :: st) w) : gj_G p l e R s m args below meth c D ad tc A nL Q pc lv (.int y :: .int x :: st) w := by
  obtain ⟨hx, hb, hml, hown, hts, hr, hlk, hK, hA, hSt, hNw⟩ := C
  subst hp
  obtain ⟨v, h1, h2⟩ := ab_bd h
  have k := k v h2
  unfold ab_div at h1
  split at h1
  · cases h1
  · next h3 =>
    cases h1
    intro H locs ls hL hP hD hS
    exact lv_idiv hx hb hd h3 (k H locs ls hL hP hD hS)
theorem gj_irem (C : gj_C p s m args meth c D ad tc A cc nL ret own) {x y : Int32} {α : Type} {f : Int32 → Option α} {r : α} (hp : pc + 1 = pc') (hd : decode cc pc = .ok (.irem, 1))  (h : (ab_rem x y).bind f = some r) (k : ∀ v, f v = some r → gj_G p l e R s m args below meth c D ad tc A nL Q pc' lv (.int v :: st) w) : gj_G p l e R s m args below meth c D ad tc A nL Q pc lv (.int y :: .int x :: st) w := by
  obtain ⟨hx, hb, hml, hown, hts, hr, hlk, hK, hA, hSt, hNw⟩ := C
  subst hp
  obtain ⟨v, h1, h2⟩ := ab_bd h
  have k := k v h2
  unfold ab_rem at h1
  split at h1
  · cases h1
  · next h3 =>
    cases h1
    intro H locs ls hL hP hD hS
    exact lv_irem hx hb hd h3 (k H locs ls hL hP hD hS)
theorem gj_getI (C : gj_C p s m args meth c D ad tc A cc nL ret own) {C0 : String} {T : u_T} {N ci idx i a : Nat} {α : Type} {f : Int32 → Option α} {r : α} (hp : pc + 3 = pc') (hd : decode cc pc = .ok (.getfield idx, 3)) (hF : gj_F own idx ci i C0 T N) (h : (ab_getI w ci a i).bind f = some r) (k : ∀ v, f v = some r → gj_G p l e R s m args below meth c D ad tc A nL Q pc' lv (.int v :: st) w) : gj_G p l e R s m args below meth c D ad tc A nL Q pc lv (.ref a :: st) w := by
  obtain ⟨hx, hb, hml, hown, hts, hr, hlk, hK, hA, hSt, hNw⟩ := C
  subst hp
  obtain ⟨v, h1, h2⟩ := ab_bd h
  have k := k v h2
  obtain ⟨hc, hk, hin, hf, ho⟩ := hF
  obtain ⟨fs, h3, h4⟩ := ab_getI_some h1
  intro H locs ls hL hP hD hS
  exact va_get hx hb hts hin hown hK hP a (ab_x_get h3) hc i hk (hts _ hf) (by rw [ho]; exact fun _ h9 => h9) (by show (fs.map (ab_v ad))[i]? = _; rw [List.getElem?_map, h4]; rfl) hd (k H locs ls hL hP hD hS)
theorem gj_getR (C : gj_C p s m args meth c D ad tc A cc nL ret own) {C0 : String} {T : u_T} {N ci idx i a : Nat} {α : Type} {f : Nat → Option α} {r : α} (hp : pc + 3 = pc') (hd : decode cc pc = .ok (.getfield idx, 3)) (hF : gj_F own idx ci i C0 T N) (h : (ab_getR w ci a i).bind f = some r) (k : ∀ v, f v = some r → gj_G p l e R s m args below meth c D ad tc A nL Q pc' lv (.ref v :: st) w) : gj_G p l e R s m args below meth c D ad tc A nL Q pc lv (.ref a :: st) w := by
  obtain ⟨hx, hb, hml, hown, hts, hr, hlk, hK, hA, hSt, hNw⟩ := C
  subst hp
  obtain ⟨v, h1, h2⟩ := ab_bd h
  have k := k v h2
  obtain ⟨hc, hk, hin, hf, ho⟩ := hF
  obtain ⟨fs, h3, h4⟩ := ab_getR_some h1
  intro H locs ls hL hP hD hS
  exact va_get hx hb hts hin hown hK hP a (ab_x_get h3) hc i hk (hts _ hf) (by rw [ho]; exact fun _ h9 => h9) (by show (fs.map (ab_v ad))[i]? = _; rw [List.getElem?_map, h4]; rfl) hd (k H locs ls hL hP hD hS)
theorem gj_putI (C : gj_C p s m args meth c D ad tc A cc nL ret own) {C0 : String} {T : u_T} {N ci idx i a : Nat} {x : Int32} {ty : FieldType} {α : Type} {f : ab_W → Option α} {r : α} (hp : pc + 3 = pc') (hd : decode cc pc = .ok (.putfield idx, 3)) (hF : gj_F own idx ci i C0 T N) (hFP : gj_FP T i N) (htt : parseFieldDescriptor (T i).2.2.1 = some .int) (h : (ab_putI w ci a i x).bind f = some r) (k : ∀ w1, f w1 = some r → gj_G p l e R s m args below meth c D ad tc A nL Q pc' lv st w1) : gj_G p l e R s m args below meth c D ad tc A nL Q pc lv ((.int x) :: .ref a :: st) w := by
  obtain ⟨hx, hb, hml, hown, hts, hr, hlk, hK, hA, hSt, hNw⟩ := C
  subst hp
  obtain ⟨hc, hk, hin, hf, ho⟩ := hF
  obtain ⟨⟨tys, hty⟩, hnm, hfin⟩ := hFP
  obtain ⟨w1, h1, h2⟩ := ab_bd h
  have k := k w1 h2
  unfold ab_putI at h1
  obtain ⟨fs, h3, h4, h5⟩ := ab_put_some h1
  subst h5
  intro H locs ls hL hP hD hS
  exact va_put hx hb hts hin tys hty hnm hown hK hP hD hS a (ab_x_get h3) hc i hk (hts _ hf) (by rw [ho]; exact fun _ h9 => h9) hfin htt rfl rfl (by rw [List.length_map]; exact h4) hd (fun H1 locs1 hP1 hD1 hS1 => k H1 locs1 ls hL (by rw [← ab_x_set]; have e : ab_c ad tc (.inr (ci, fs.set i (.int x))) = .inr (ci, (fs.map (ab_v ad)).set i (ab_v ad (.int x))) := (by simp only [ab_c, List.map_set]); rw [e]; exact hP1) (by rw [← ab_x_set]; have e : ab_c ad tc (.inr (ci, fs.set i (.int x))) = .inr (ci, (fs.map (ab_v ad)).set i (ab_v ad (.int x))) := (by simp only [ab_c, List.map_set]); rw [e]; exact hD1) hS1)
theorem gj_putZ (C : gj_C p s m args meth c D ad tc A cc nL ret own) {C0 : String} {T : u_T} {N ci idx i a : Nat} {x : Int32} {ty : FieldType} {α : Type} {f : ab_W → Option α} {r : α} (hp : pc + 3 = pc') (hd : decode cc pc = .ok (.putfield idx, 3)) (hF : gj_F own idx ci i C0 T N) (hFP : gj_FP T i N) (htt : parseFieldDescriptor (T i).2.2.1 = some .boolean) (h : (ab_putZ w ci a i x).bind f = some r) (k : ∀ w1, f w1 = some r → gj_G p l e R s m args below meth c D ad tc A nL Q pc' lv st w1) : gj_G p l e R s m args below meth c D ad tc A nL Q pc lv ((.int x) :: .ref a :: st) w := by
  obtain ⟨hx, hb, hml, hown, hts, hr, hlk, hK, hA, hSt, hNw⟩ := C
  subst hp
  obtain ⟨hc, hk, hin, hf, ho⟩ := hF
  obtain ⟨⟨tys, hty⟩, hnm, hfin⟩ := hFP
  obtain ⟨w1, h1, h2⟩ := ab_bd h
  have k := k w1 h2
  unfold ab_putZ at h1
  split at h1
  case isFalse => cases h1
  rename_i hz
  obtain ⟨fs, h3, h4, h5⟩ := ab_put_some h1
  subst h5
  intro H locs ls hL hP hD hS
  exact va_put hx hb hts hin tys hty hnm hown hK hP hD hS a (ab_x_get h3) hc i hk (hts _ hf) (by rw [ho]; exact fun _ h9 => h9) hfin htt (by show Value.int (x &&& 1) = _; rw [gj_nZ hz]; rfl) (gj_fitZ hz) (by rw [List.length_map]; exact h4) hd (fun H1 locs1 hP1 hD1 hS1 => k H1 locs1 ls hL (by rw [← ab_x_set]; have e : ab_c ad tc (.inr (ci, fs.set i (.int x))) = .inr (ci, (fs.map (ab_v ad)).set i (ab_v ad (.int x))) := (by simp only [ab_c, List.map_set]); rw [e]; exact hP1) (by rw [← ab_x_set]; have e : ab_c ad tc (.inr (ci, fs.set i (.int x))) = .inr (ci, (fs.map (ab_v ad)).set i (ab_v ad (.int x))) := (by simp only [ab_c, List.map_set]); rw [e]; exact hD1) hS1)
theorem gj_putR (C : gj_C p s m args meth c D ad tc A cc nL ret own) {C0 : String} {T : u_T} {N ci idx i a : Nat} {x : Nat} {ty : FieldType} {α : Type} {f : ab_W → Option α} {r : α} (hp : pc + 3 = pc') (hd : decode cc pc = .ok (.putfield idx, 3)) (hF : gj_F own idx ci i C0 T N) (hFP : gj_FP T i N) (hft : ∀ z, fits ty (.ref z) = true) (htt : parseFieldDescriptor (T i).2.2.1 = some ty) (h : (ab_putR w ci a i x).bind f = some r) (k : ∀ w1, f w1 = some r → gj_G p l e R s m args below meth c D ad tc A nL Q pc' lv st w1) : gj_G p l e R s m args below meth c D ad tc A nL Q pc lv ((.ref x) :: .ref a :: st) w := by
  obtain ⟨hx, hb, hml, hown, hts, hr, hlk, hK, hA, hSt, hNw⟩ := C
  subst hp
  obtain ⟨hc, hk, hin, hf, ho⟩ := hF
  obtain ⟨⟨tys, hty⟩, hnm, hfin⟩ := hFP
  obtain ⟨w1, h1, h2⟩ := ab_bd h
  have k := k w1 h2
  unfold ab_putR at h1
  obtain ⟨fs, h3, h4, h5⟩ := ab_put_some h1
  subst h5
  intro H locs ls hL hP hD hS
  exact va_put hx hb hts hin tys hty hnm hown hK hP hD hS a (ab_x_get h3) hc i hk (hts _ hf) (by rw [ho]; exact fun _ h9 => h9) hfin htt (by cases ty <;> rfl) (hft (ad x)) (by rw [List.length_map]; exact h4) hd (fun H1 locs1 hP1 hD1 hS1 => k H1 locs1 ls hL (by rw [← ab_x_set]; have e : ab_c ad tc (.inr (ci, fs.set i (.ref x))) = .inr (ci, (fs.map (ab_v ad)).set i (ab_v ad (.ref x))) := (by simp only [ab_c, List.map_set]); rw [e]; exact hP1) (by rw [← ab_x_set]; have e : ab_c ad tc (.inr (ci, fs.set i (.ref x))) = .inr (ci, (fs.map (ab_v ad)).set i (ab_v ad (.ref x))) := (by simp only [ab_c, List.map_set]); rw [e]; exact hD1) hS1)
theorem gj_iald (C : gj_C p s m args meth c D ad tc A cc nL ret own) {i : Int32} {a : Nat} {α : Type} {f : Int32 → Option α} {r : α} (hp : pc + 1 = pc') (hd : decode cc pc = .ok (.iaload, 1))  (h : (ab_ald w a i).bind f = some r) (k : ∀ v, f v = some r → gj_G p l e R s m args below meth c D ad tc A nL Q pc' lv (.int v :: st) w) : gj_G p l e R s m args below meth c D ad tc A nL Q pc lv (.int i :: .ref a :: st) w := by
  obtain ⟨hx, hb, hml, hown, hts, hr, hlk, hK, hA, hSt, hNw⟩ := C
  subst hp
  obtain ⟨v, h1, h2⟩ := ab_bd h
  have k := k v h2
  obtain ⟨n, g, h3, h4, rfl⟩ := ab_ald_some h1
  intro H locs ls hL hP hD hS
  exact va_iald hx hb hK hP a 0 (ab_x_get h3) rfl h4 hd (k H locs ls hL hP hD hS)
theorem gj_rald (C : gj_C p s m args meth c D ad tc A cc nL ret own) {C0 : String} {t : Nat} {i : Int32} {a : Nat} {α : Type} {f : Nat → Option α} {r : α} (hp : pc + 1 = pc') (hd : decode cc pc = .ok (.aaload, 1)) (ht : (ab_t tc)[t]? = some (tc t, .object C0)) (h : (ab_rald w t a i).bind f = some r) (k : ∀ v, f v = some r → gj_G p l e R s m args below meth c D ad tc A nL Q pc' lv (.ref v :: st) w) : gj_G p l e R s m args below meth c D ad tc A nL Q pc lv (.int i :: .ref a :: st) w := by
  obtain ⟨hx, hb, hml, hown, hts, hr, hlk, hK, hA, hSt, hNw⟩ := C
  subst hp
  obtain ⟨v, h1, h2⟩ := ab_bd h
  have k := k v h2
  obtain ⟨n, g, h3, h4, h5⟩ := ab_rald_some h1
  intro H locs ls hL hP hD hS
  refine va_aldq hx hb hK hP a t (ab_x_get h3) ht h4 hd ?_
  have e : va_rf (Option.map ad (g i.toNatClampNeg)) = .ref (ad v) := by rw [h5]; rfl
  rw [e]
  exact k H locs ls hL hP hD hS
theorem gj_alen (C : gj_C p s m args meth c D ad tc A cc nL ret own) {a : Nat} {α : Type} {f : Int32 → Option α} {r : α} (hp : pc + 1 = pc') (hd : decode cc pc = .ok (.arraylength, 1))  (h : (ab_len w a).bind f = some r) (k : ∀ v, f v = some r → gj_G p l e R s m args below meth c D ad tc A nL Q pc' lv (.int v :: st) w) : gj_G p l e R s m args below meth c D ad tc A nL Q pc lv (.ref a :: st) w := by
  obtain ⟨hx, hb, hml, hown, hts, hr, hlk, hK, hA, hSt, hNw⟩ := C
  subst hp
  obtain ⟨v, h1, h2⟩ := ab_bd h
  have k := k v h2
  unfold ab_len at h1
  obtain ⟨⟨n, g⟩, h3, h4⟩ := Option.map_eq_some_iff.mp h1
  intro H locs ls hL hP hD hS
  exact va_alen hx hb hK hP a 0 (ab_x_get (ab_arr_some h3)) rfl h4 hd (k H locs ls hL hP hD hS)
theorem gj_iast (C : gj_C p s m args meth c D ad tc A cc nL ret own) {i x : Int32} {a : Nat} {α : Type} {f : ab_W → Option α} {r : α} (hp : pc + 1 = pc') (hd : decode cc pc = .ok (.iastore, 1)) (h : (ab_ast w a i x).bind f = some r) (k : ∀ w1, f w1 = some r → gj_G p l e R s m args below meth c D ad tc A nL Q pc' lv st w1) : gj_G p l e R s m args below meth c D ad tc A nL Q pc lv (.int x :: .int i :: .ref a :: st) w := by
  obtain ⟨hx, hb, hml, hown, hts, hr, hlk, hK, hA, hSt, hNw⟩ := C
  subst hp
  obtain ⟨w1, h1, h2⟩ := ab_bd h
  have k := k w1 h2
  obtain ⟨n, g, h3, h4, rfl⟩ := ab_ast_some h1
  intro H locs ls hL hP hD hS
  exact va_iast hx hb hK hP hD hS a 0 (ab_x_get h3) rfl h4 hd (fun H1 locs1 hP1 hD1 hS1 => k H1 locs1 ls hL (by rw [← ab_x_set]; exact hP1) (by rw [← ab_x_set]; exact hD1) hS1)
theorem gj_above (C : gj_C p s m args meth c D ad tc A cc nL ret own) {idx : Nat} (hp : pc + 3 = pc') (hd : decode cc pc = .ok (.getstatic idx, 3)) (hf : Cond.fieldLink own idx RX9 "ABOVE" "[I" ∈ gj_tb) (k : gj_G p l e R s m args below meth c D ad tc A nL Q pc' lv (.ref 1000 :: st) w) : gj_G p l e R s m args below meth c D ad tc A nL Q pc lv st w := by
  obtain ⟨hx, hb, hml, hown, hts, hr, hlk, hK, hA, hSt, hNw⟩ := C
  subst hp
  intro H locs ls hL hP hD hS
  exact va_gets hx hb hSt.1.1 hS hown (hts _ hf) (fun _ h9 => h9) hd (k H locs ls hL hP hD hS)
theorem gj_aboveN (C : gj_C p s m args meth c D ad tc A cc nL ret RX8) (hp : pc + 3 = pc') (hd : decode cc pc = .ok (.getstatic 47, 3)) (k : gj_G p l e R s m args below meth c D ad tc A nL Q pc' lv (.ref 1000 :: st) w) : gj_G p l e R s m args below meth c D ad tc A nL Q pc lv st w := by
  obtain ⟨hx, hb, hml, hown, hts, hr, hlk, hK, hA, hSt, hNw⟩ := C
  subst hp
  intro H locs ls hL hP hD hS
  exact va_getsN hx hb hSt.1.1 hS hown (va_Nw.use rfl hNw) (fun _ h9 => h9) hd (k H locs ls hL hP hD hS)
theorem gj_aboveld (C : gj_C p s m args meth c D ad tc A cc nL ret own) {i : Int32} {α : Type} {f : Int32 → Option α} {r : α} (hp : pc + 1 = pc') (hd : decode cc pc = .ok (.iaload, 1))  (h : (ab_rd 7 ab_above i).bind f = some r) (k : ∀ v, f v = some r → gj_G p l e R s m args below meth c D ad tc A nL Q pc' lv (.int v :: st) w) : gj_G p l e R s m args below meth c D ad tc A nL Q pc lv (.int i :: .ref 1000 :: st) w := by
  obtain ⟨hx, hb, hml, hown, hts, hr, hlk, hK, hA, hSt, hNw⟩ := C
  subst hp
  obtain ⟨v, h1, h2⟩ := ab_bd h
  have k := k v h2
  obtain ⟨h4, rfl⟩ := ab_rd_some h1
  intro H locs ls hL hP hD hS
  exact gj_tld hx hb hSt.1.2 hS h4 hd (k H locs ls hL hP hD hS)
theorem gj_bodies (C : gj_C p s m args meth c D ad tc A cc nL ret own) {idx : Nat} (hp : pc + 3 = pc') (hd : decode cc pc = .ok (.getstatic idx, 3)) (hf : Cond.fieldLink own idx RX8 "BODIES" "[I" ∈ gj_tb) (k : gj_G p l e R s m args below meth c D ad tc A nL Q pc' lv (.ref 1001 :: st) w) : gj_G p l e R s m args below meth c D ad tc A nL Q pc lv st w := by
  obtain ⟨hx, hb, hml, hown, hts, hr, hlk, hK, hA, hSt, hNw⟩ := C
  subst hp
  intro H locs ls hL hP hD hS
  exact va_gets hx hb hSt.2.1 hS hown (hts _ hf) (fun _ h9 => h9) hd (k H locs ls hL hP hD hS)
theorem gj_bodiesld (C : gj_C p s m args meth c D ad tc A cc nL ret own) {i : Int32} {α : Type} {f : Int32 → Option α} {r : α} (hp : pc + 1 = pc') (hd : decode cc pc = .ok (.iaload, 1))  (h : (ab_rd 28 ab_bodies i).bind f = some r) (k : ∀ v, f v = some r → gj_G p l e R s m args below meth c D ad tc A nL Q pc' lv (.int v :: st) w) : gj_G p l e R s m args below meth c D ad tc A nL Q pc lv (.int i :: .ref 1001 :: st) w := by
  obtain ⟨hx, hb, hml, hown, hts, hr, hlk, hK, hA, hSt, hNw⟩ := C
  subst hp
  obtain ⟨v, h1, h2⟩ := ab_bd h
  have k := k v h2
  obtain ⟨h4, rfl⟩ := ab_rd_some h1
  intro H locs ls hL hP hD hS
  exact gj_tld hx hb hSt.2.2 hS h4 hd (k H locs ls hL hP hD hS)
theorem gj_istore_n (C : gj_C p s m args meth c D ad tc A cc nL ret own) {k0 : Fin 4} {i : Nat} {x : Int32} {lv' : List (Option Value)} (hp : pc + 1 = pc') (hd : decode cc pc = .ok (.istore_n k0, 1)) (hi : (k0 : Nat) = i) (hn : i < nL) (hok : gj_ok lv i = true) (hl : lv.set i (some (.int x)) = lv') (k : gj_G p l e R s m args below meth c D ad tc A nL Q pc' lv' st w) : gj_G p l e R s m args below meth c D ad tc A nL Q pc lv ((.int x) :: st) w := by
  obtain ⟨hx, hb, hml, hown, hts, hr, hlk, hK, hA, hSt, hNw⟩ := C
  subst hp
  subst hl
  intro H locs ls hL hP hD hS
  exact lv_istore_n hx hb hd hi (gj_Lh hL) hn rfl (fun ls' h' => k H locs ls' (gj_Ls hL hok h') hP hD hS)
theorem gj_istore (C : gj_C p s m args meth c D ad tc A cc nL ret own) {i : Nat} {x : Int32} {lv' : List (Option Value)} (hp : pc + 2 = pc') (hd : decode cc pc = .ok (.istore i, 2))  (hn : i < nL) (hok : gj_ok lv i = true) (hl : lv.set i (some (.int x)) = lv') (k : gj_G p l e R s m args below meth c D ad tc A nL Q pc' lv' st w) : gj_G p l e R s m args below meth c D ad tc A nL Q pc lv ((.int x) :: st) w := by
  obtain ⟨hx, hb, hml, hown, hts, hr, hlk, hK, hA, hSt, hNw⟩ := C
  subst hp
  subst hl
  intro H locs ls hL hP hD hS
  exact lv_istore hx hb hd (gj_Lh hL) hn rfl (fun ls' h' => k H locs ls' (gj_Ls hL hok h') hP hD hS)
theorem gj_astore_n (C : gj_C p s m args meth c D ad tc A cc nL ret own) {k0 : Fin 4} {i : Nat} {x : Nat} {lv' : List (Option Value)} (hp : pc + 1 = pc') (hd : decode cc pc = .ok (.astore_n k0, 1)) (hi : (k0 : Nat) = i) (hn : i < nL) (hok : gj_ok lv i = true) (hl : lv.set i (some (.ref x)) = lv') (k : gj_G p l e R s m args below meth c D ad tc A nL Q pc' lv' st w) : gj_G p l e R s m args below meth c D ad tc A nL Q pc lv ((.ref x) :: st) w := by
  obtain ⟨hx, hb, hml, hown, hts, hr, hlk, hK, hA, hSt, hNw⟩ := C
  subst hp
  subst hl
  intro H locs ls hL hP hD hS
  exact lv_astore_n hx hb hd hi (gj_Lh hL) hn rfl (fun ls' h' => k H locs ls' (gj_Ls hL hok h') hP hD hS)
theorem gj_astore (C : gj_C p s m args meth c D ad tc A cc nL ret own) {i : Nat} {x : Nat} {lv' : List (Option Value)} (hp : pc + 2 = pc') (hd : decode cc pc = .ok (.astore i, 2))  (hn : i < nL) (hok : gj_ok lv i = true) (hl : lv.set i (some (.ref x)) = lv') (k : gj_G p l e R s m args below meth c D ad tc A nL Q pc' lv' st w) : gj_G p l e R s m args below meth c D ad tc A nL Q pc lv ((.ref x) :: st) w := by
  obtain ⟨hx, hb, hml, hown, hts, hr, hlk, hK, hA, hSt, hNw⟩ := C
  subst hp
  subst hl
  intro H locs ls hL hP hD hS
  exact lv_astore hx hb hd (gj_Lh hL) hn rfl (fun ls' h' => k H locs ls' (gj_Ls hL hok h') hP hD hS)
theorem gj_iinc (C : gj_C p s m args meth c D ad tc A cc nL ret own) {i : Nat} {n : Int} {x v : Int32} {lv' : List (Option Value)} (hp : pc + 3 = pc') (hd : decode cc pc = .ok (.iinc i n, 3)) (hx0 : lv[i]? = some (some (.int x))) (hv : x + Int32.ofInt n = v) (hn : i < nL) (hok : gj_ok lv i = true) (hl : lv.set i (some (.int v)) = lv') (k : gj_G p l e R s m args below meth c D ad tc A nL Q pc' lv' st w) : gj_G p l e R s m args below meth c D ad tc A nL Q pc lv st w := by
  obtain ⟨hx, hb, hml, hown, hts, hr, hlk, hK, hA, hSt, hNw⟩ := C
  subst hp
  subst hl
  intro H locs ls hL hP hD hS
  obtain ⟨k1, hk1⟩ := gj_Lk ad hx0
  exact lv_iinc hx hb hd (gj_Lh hL) hk1 hv hn rfl (fun ls' h' => k H locs ls' (gj_Ls hL hok h') hP hD hS)
theorem gj_if_eq (C : gj_C p s m args meth c D ad tc A cc nL ret own) {x : Int32} {off : Int} {tgt : Nat} {α : Type} {a b : Option α} {r : α} (hp : pc + 3 = pc') (hd : decode cc pc = .ok (.ifCond .eq off, 3)) (ht : (pc : Int) + off = (tgt : Int)) (h : (if x = 0 then a else b) = some r) (ka : a = some r → gj_G p l e R s m args below meth c D ad tc A nL Q tgt lv st w) (kb : b = some r → gj_G p l e R s m args below meth c D ad tc A nL Q pc' lv st w) : gj_G p l e R s m args below meth c D ad tc A nL Q pc lv (.int x :: st) w := by
  obtain ⟨hx, hb, hml, hown, hts, hr, hlk, hK, hA, hSt, hNw⟩ := C
  subst hp
  intro H locs ls hL hP hD hS
  exact lv_if_eq hx hb hd ht (fun h1 => ka (by rw [if_pos h1] at h; exact h) H locs ls hL hP hD hS) (fun h1 => kb (by rw [if_neg h1] at h; exact h) H locs ls hL hP hD hS)
theorem gj_if_ne (C : gj_C p s m args meth c D ad tc A cc nL ret own) {x : Int32} {off : Int} {tgt : Nat} {α : Type} {a b : Option α} {r : α} (hp : pc + 3 = pc') (hd : decode cc pc = .ok (.ifCond .ne off, 3)) (ht : (pc : Int) + off = (tgt : Int)) (h : (if x = 0 then a else b) = some r) (ka : a = some r → gj_G p l e R s m args below meth c D ad tc A nL Q pc' lv st w) (kb : b = some r → gj_G p l e R s m args below meth c D ad tc A nL Q tgt lv st w) : gj_G p l e R s m args below meth c D ad tc A nL Q pc lv (.int x :: st) w := by
  obtain ⟨hx, hb, hml, hown, hts, hr, hlk, hK, hA, hSt, hNw⟩ := C
  subst hp
  intro H locs ls hL hP hD hS
  exact lv_if_ne hx hb hd ht (fun h1 => kb (by rw [if_neg h1] at h; exact h) H locs ls hL hP hD hS) (fun h1 => ka (by rw [if_pos h1] at h; exact h) H locs ls hL hP hD hS)
theorem gj_if_lt (C : gj_C p s m args meth c D ad tc A cc nL ret own) {x : Int32} {off : Int} {tgt : Nat} {α : Type} {a b : Option α} {r : α} (hp : pc + 3 = pc') (hd : decode cc pc = .ok (.ifCond .lt off, 3)) (ht : (pc : Int) + off = (tgt : Int)) (h : (if x < 0 then a else b) = some r) (ka : a = some r → gj_G p l e R s m args below meth c D ad tc A nL Q tgt lv st w) (kb : b = some r → gj_G p l e R s m args below meth c D ad tc A nL Q pc' lv st w) : gj_G p l e R s m args below meth c D ad tc A nL Q pc lv (.int x :: st) w := by
  obtain ⟨hx, hb, hml, hown, hts, hr, hlk, hK, hA, hSt, hNw⟩ := C
  subst hp
  intro H locs ls hL hP hD hS
  exact lv_if_lt hx hb hd ht (fun h1 => ka (by rw [if_pos h1] at h; exact h) H locs ls hL hP hD hS) (fun h1 => kb (by rw [if_neg h1] at h; exact h) H locs ls hL hP hD hS)
theorem gj_if_ge (C : gj_C p s m args meth c D ad tc A cc nL ret own) {x : Int32} {off : Int} {tgt : Nat} {α : Type} {a b : Option α} {r : α} (hp : pc + 3 = pc') (hd : decode cc pc = .ok (.ifCond .ge off, 3)) (ht : (pc : Int) + off = (tgt : Int)) (h : (if x < 0 then a else b) = some r) (ka : a = some r → gj_G p l e R s m args below meth c D ad tc A nL Q pc' lv st w) (kb : b = some r → gj_G p l e R s m args below meth c D ad tc A nL Q tgt lv st w) : gj_G p l e R s m args below meth c D ad tc A nL Q pc lv (.int x :: st) w := by
  obtain ⟨hx, hb, hml, hown, hts, hr, hlk, hK, hA, hSt, hNw⟩ := C
  subst hp
  intro H locs ls hL hP hD hS
  exact lv_if_ge hx hb hd ht (fun h1 => kb (by rw [if_neg (Int32.not_lt.mpr h1)] at h; exact h) H locs ls hL hP hD hS) (fun h1 => ka (by rw [if_pos (Int32.not_le.mp h1)] at h; exact h) H locs ls hL hP hD hS)
theorem gj_if_gt (C : gj_C p s m args meth c D ad tc A cc nL ret own) {x : Int32} {off : Int} {tgt : Nat} {α : Type} {a b : Option α} {r : α} (hp : pc + 3 = pc') (hd : decode cc pc = .ok (.ifCond .gt off, 3)) (ht : (pc : Int) + off = (tgt : Int)) (h : (if 0 < x then a else b) = some r) (ka : a = some r → gj_G p l e R s m args below meth c D ad tc A nL Q tgt lv st w) (kb : b = some r → gj_G p l e R s m args below meth c D ad tc A nL Q pc' lv st w) : gj_G p l e R s m args below meth c D ad tc A nL Q pc lv (.int x :: st) w := by
  obtain ⟨hx, hb, hml, hown, hts, hr, hlk, hK, hA, hSt, hNw⟩ := C
  subst hp
  intro H locs ls hL hP hD hS
  exact lv_if_gt hx hb hd ht (fun h1 => ka (by rw [if_pos h1] at h; exact h) H locs ls hL hP hD hS) (fun h1 => kb (by rw [if_neg h1] at h; exact h) H locs ls hL hP hD hS)
theorem gj_if_le (C : gj_C p s m args meth c D ad tc A cc nL ret own) {x : Int32} {off : Int} {tgt : Nat} {α : Type} {a b : Option α} {r : α} (hp : pc + 3 = pc') (hd : decode cc pc = .ok (.ifCond .le off, 3)) (ht : (pc : Int) + off = (tgt : Int)) (h : (if 0 < x then a else b) = some r) (ka : a = some r → gj_G p l e R s m args below meth c D ad tc A nL Q pc' lv st w) (kb : b = some r → gj_G p l e R s m args below meth c D ad tc A nL Q tgt lv st w) : gj_G p l e R s m args below meth c D ad tc A nL Q pc lv (.int x :: st) w := by
  obtain ⟨hx, hb, hml, hown, hts, hr, hlk, hK, hA, hSt, hNw⟩ := C
  subst hp
  intro H locs ls hL hP hD hS
  exact lv_if_le hx hb hd ht (fun h1 => kb (by rw [if_neg (Int32.not_lt.mpr h1)] at h; exact h) H locs ls hL hP hD hS) (fun h1 => ka (by rw [if_pos (Int32.not_le.mp h1)] at h; exact h) H locs ls hL hP hD hS)
theorem gj_icmp_eq (C : gj_C p s m args meth c D ad tc A cc nL ret own) {x y : Int32} {off : Int} {tgt : Nat} {α : Type} {a b : Option α} {r : α} (hp : pc + 3 = pc') (hd : decode cc pc = .ok (.if_icmp .eq off, 3)) (ht : (pc : Int) + off = (tgt : Int)) (h : (if x = y then a else b) = some r) (ka : a = some r → gj_G p l e R s m args below meth c D ad tc A nL Q tgt lv st w) (kb : b = some r → gj_G p l e R s m args below meth c D ad tc A nL Q pc' lv st w) : gj_G p l e R s m args below meth c D ad tc A nL Q pc lv (.int y :: .int x :: st) w := by
  obtain ⟨hx, hb, hml, hown, hts, hr, hlk, hK, hA, hSt, hNw⟩ := C
  subst hp
  intro H locs ls hL hP hD hS
  exact lv_icmp_eq hx hb hd ht (fun h1 => ka (by rw [if_pos h1] at h; exact h) H locs ls hL hP hD hS) (fun h1 => kb (by rw [if_neg h1] at h; exact h) H locs ls hL hP hD hS)
theorem gj_icmp_ne (C : gj_C p s m args meth c D ad tc A cc nL ret own) {x y : Int32} {off : Int} {tgt : Nat} {α : Type} {a b : Option α} {r : α} (hp : pc + 3 = pc') (hd : decode cc pc = .ok (.if_icmp .ne off, 3)) (ht : (pc : Int) + off = (tgt : Int)) (h : (if x = y then a else b) = some r) (ka : a = some r → gj_G p l e R s m args below meth c D ad tc A nL Q pc' lv st w) (kb : b = some r → gj_G p l e R s m args below meth c D ad tc A nL Q tgt lv st w) : gj_G p l e R s m args below meth c D ad tc A nL Q pc lv (.int y :: .int x :: st) w := by
  obtain ⟨hx, hb, hml, hown, hts, hr, hlk, hK, hA, hSt, hNw⟩ := C
  subst hp
  intro H locs ls hL hP hD hS
  exact lv_icmp_ne hx hb hd ht (fun h1 => kb (by rw [if_neg h1] at h; exact h) H locs ls hL hP hD hS) (fun h1 => ka (by rw [if_pos h1] at h; exact h) H locs ls hL hP hD hS)
theorem gj_icmp_lt (C : gj_C p s m args meth c D ad tc A cc nL ret own) {x y : Int32} {off : Int} {tgt : Nat} {α : Type} {a b : Option α} {r : α} (hp : pc + 3 = pc') (hd : decode cc pc = .ok (.if_icmp .lt off, 3)) (ht : (pc : Int) + off = (tgt : Int)) (h : (if x < y then a else b) = some r) (ka : a = some r → gj_G p l e R s m args below meth c D ad tc A nL Q tgt lv st w) (kb : b = some r → gj_G p l e R s m args below meth c D ad tc A nL Q pc' lv st w) : gj_G p l e R s m args below meth c D ad tc A nL Q pc lv (.int y :: .int x :: st) w := by
  obtain ⟨hx, hb, hml, hown, hts, hr, hlk, hK, hA, hSt, hNw⟩ := C
  subst hp
  intro H locs ls hL hP hD hS
  exact lv_icmp_lt hx hb hd ht (fun h1 => ka (by rw [if_pos h1] at h; exact h) H locs ls hL hP hD hS) (fun h1 => kb (by rw [if_neg h1] at h; exact h) H locs ls hL hP hD hS)
theorem gj_icmp_ge (C : gj_C p s m args meth c D ad tc A cc nL ret own) {x y : Int32} {off : Int} {tgt : Nat} {α : Type} {a b : Option α} {r : α} (hp : pc + 3 = pc') (hd : decode cc pc = .ok (.if_icmp .ge off, 3)) (ht : (pc : Int) + off = (tgt : Int)) (h : (if x < y then a else b) = some r) (ka : a = some r → gj_G p l e R s m args below meth c D ad tc A nL Q pc' lv st w) (kb : b = some r → gj_G p l e R s m args below meth c D ad tc A nL Q tgt lv st w) : gj_G p l e R s m args below meth c D ad tc A nL Q pc lv (.int y :: .int x :: st) w := by
  obtain ⟨hx, hb, hml, hown, hts, hr, hlk, hK, hA, hSt, hNw⟩ := C
  subst hp
  intro H locs ls hL hP hD hS
  exact lv_icmp_ge hx hb hd ht (fun h1 => kb (by rw [if_neg (Int32.not_lt.mpr h1)] at h; exact h) H locs ls hL hP hD hS) (fun h1 => ka (by rw [if_pos (Int32.not_le.mp h1)] at h; exact h) H locs ls hL hP hD hS)
theorem gj_icmp_gt (C : gj_C p s m args meth c D ad tc A cc nL ret own) {x y : Int32} {off : Int} {tgt : Nat} {α : Type} {a b : Option α} {r : α} (hp : pc + 3 = pc') (hd : decode cc pc = .ok (.if_icmp .gt off, 3)) (ht : (pc : Int) + off = (tgt : Int)) (h : (if y < x then a else b) = some r) (ka : a = some r → gj_G p l e R s m args below meth c D ad tc A nL Q tgt lv st w) (kb : b = some r → gj_G p l e R s m args below meth c D ad tc A nL Q pc' lv st w) : gj_G p l e R s m args below meth c D ad tc A nL Q pc lv (.int y :: .int x :: st) w := by
  obtain ⟨hx, hb, hml, hown, hts, hr, hlk, hK, hA, hSt, hNw⟩ := C
  subst hp
  intro H locs ls hL hP hD hS
  exact lv_icmp_gt hx hb hd ht (fun h1 => ka (by rw [if_pos h1] at h; exact h) H locs ls hL hP hD hS) (fun h1 => kb (by rw [if_neg h1] at h; exact h) H locs ls hL hP hD hS)
theorem gj_icmp_le (C : gj_C p s m args meth c D ad tc A cc nL ret own) {x y : Int32} {off : Int} {tgt : Nat} {α : Type} {a b : Option α} {r : α} (hp : pc + 3 = pc') (hd : decode cc pc = .ok (.if_icmp .le off, 3)) (ht : (pc : Int) + off = (tgt : Int)) (h : (if y < x then a else b) = some r) (ka : a = some r → gj_G p l e R s m args below meth c D ad tc A nL Q pc' lv st w) (kb : b = some r → gj_G p l e R s m args below meth c D ad tc A nL Q tgt lv st w) : gj_G p l e R s m args below meth c D ad tc A nL Q pc lv (.int y :: .int x :: st) w := by
  obtain ⟨hx, hb, hml, hown, hts, hr, hlk, hK, hA, hSt, hNw⟩ := C
  subst hp
  intro H locs ls hL hP hD hS
  exact lv_icmp_le hx hb hd ht (fun h1 => kb (by rw [if_neg (Int32.not_lt.mpr h1)] at h; exact h) H locs ls hL hP hD hS) (fun h1 => ka (by rw [if_pos (Int32.not_le.mp h1)] at h; exact h) H locs ls hL hP hD hS)
theorem gj_goto (C : gj_C p s m args meth c D ad tc A cc nL ret own) {off : Int} {tgt : Nat} (hd : decode cc pc = .ok (.goto off, 3)) (ht : (pc : Int) + off = (tgt : Int)) (k : gj_G p l e R s m args below meth c D ad tc A nL Q tgt lv st w) : gj_G p l e R s m args below meth c D ad tc A nL Q pc lv st w := by
  obtain ⟨hx, hb, hml, hown, hts, hr, hlk, hK, hA, hSt, hNw⟩ := C
  intro H locs ls hL hP hD hS
  exact lv_goto hx hb hd ht (k H locs ls hL hP hD hS)
theorem gj_tab (C : gj_C p s m args meth c D ad tc A cc nL ret own) {dflt lo hi off : Int} {offs : Array Int} {len tgt : Nat} {x : Int32} {α : Type} {a b : Option α} {r : α} (hd : decode cc pc = .ok (.tableswitch dflt lo hi offs, len)) (v : Int32) (i : Nat) (hv : v.toInt = lo + i) (hhi : v.toInt ≤ hi) (ho : offs[i]? = some off) (ht : (pc : Int) + off = (tgt : Int)) (h : (if x = v then a else b) = some r) (ka : a = some r → gj_G p l e R s m args below meth c D ad tc A nL Q tgt lv st w) (kb : ¬ x = v → b = some r → gj_G p l e R s m args below meth c D ad tc A nL Q pc lv (.int x :: st) w) : gj_G p l e R s m args below meth c D ad tc A nL Q pc lv (.int x :: st) w := by
  by_cases hxv : x = v
  · rw [if_pos hxv] at h
    have ka := ka h
    obtain ⟨hx, hb, hml, hown, hts, hr, hlk, hK, hA, hSt, hNw⟩ := C
    subst hxv
    intro H locs ls hL hP hD hS
    exact lv_tableIn hx hb hd (by omega) (by omega) (by rw [hv, show (lo + (i : Int) - lo).toNat = i by omega]; exact ho) ht (ka H locs ls hL hP hD hS)
  · rw [if_neg hxv] at h
    exact kb hxv h
theorem gj_tabD (C : gj_C p s m args meth c D ad tc A cc nL ret own) {dflt lo hi : Int} {offs : Array Int} {len tgt : Nat} {x : Int32} (hd : decode cc pc = .ok (.tableswitch dflt lo hi offs, len)) (ht : (pc : Int) + dflt = (tgt : Int)) (hout : x.toInt < lo ∨ hi < x.toInt) (k : gj_G p l e R s m args below meth c D ad tc A nL Q tgt lv st w) : gj_G p l e R s m args below meth c D ad tc A nL Q pc lv (.int x :: st) w := by
  obtain ⟨hx, hb, hml, hown, hts, hr, hlk, hK, hA, hSt, hNw⟩ := C
  intro H locs ls hL hP hD hS
  exact lv_tableOut hx hb hd hout ht (k H locs ls hL hP hD hS)
theorem gj_look (C : gj_C p s m args meth c D ad tc A cc nL ret own) {dflt off : Int} {ps : Array (Int × Int)} {len tgt : Nat} {x : Int32} {α : Type} {a b : Option α} {r : α} (hd : decode cc pc = .ok (.lookupswitch dflt ps, len)) (v : Int32) (hp : (ps.toList.zip (ps.toList.drop 1)).all (fun (a, next) => a.1 < next.1) = true) (ho : Op.lookupswitch.offset ps.toList dflt v.toInt = off) (ht : (pc : Int) + off = (tgt : Int)) (h : (if x = v then a else b) = some r) (ka : a = some r → gj_G p l e R s m args below meth c D ad tc A nL Q tgt lv st w) (kb : ¬ x = v → b = some r → gj_G p l e R s m args below meth c D ad tc A nL Q pc lv (.int x :: st) w) : gj_G p l e R s m args below meth c D ad tc A nL Q pc lv (.int x :: st) w := by
  by_cases hxv : x = v
  · rw [if_pos hxv] at h
    have ka := ka h
    obtain ⟨hx, hb, hml, hown, hts, hr, hlk, hK, hA, hSt, hNw⟩ := C
    subst hxv
    intro H locs ls hL hP hD hS
    exact lv_lookup hx hb hd hp ho ht (ka H locs ls hL hP hD hS)
  · rw [if_neg hxv] at h
    exact kb hxv h
theorem gj_lookD (C : gj_C p s m args meth c D ad tc A cc nL ret own) {dflt : Int} {ps : Array (Int × Int)} {len tgt : Nat} {x : Int32} (hd : decode cc pc = .ok (.lookupswitch dflt ps, len)) (hp : (ps.toList.zip (ps.toList.drop 1)).all (fun (a, next) => a.1 < next.1) = true) (ht : (pc : Int) + dflt = (tgt : Int)) (ho : Op.lookupswitch.offset ps.toList dflt x.toInt = dflt) (k : gj_G p l e R s m args below meth c D ad tc A nL Q tgt lv st w) : gj_G p l e R s m args below meth c D ad tc A nL Q pc lv (.int x :: st) w := by
  obtain ⟨hx, hb, hml, hown, hts, hr, hlk, hK, hA, hSt, hNw⟩ := C
  intro H locs ls hL hP hD hS
  exact lv_lookup hx hb hd hp ho ht (k H locs ls hL hP hD hS)
theorem gj_tout (x : Int32) (lo : Int) (n : Nat) (h : ∀ j : Nat, j < n → ¬ x.toInt = lo + j) : x.toInt < lo ∨ lo + n - 1 < x.toInt := by
  by_cases h1 : x.toInt < lo
  · exact Or.inl h1
  · by_cases h2 : lo + n - 1 < x.toInt
    · exact Or.inr h2
    · exact absurd (by omega) (h (x.toInt - lo).toNat (by omega))
theorem gj_cpy (C : gj_C p s m args meth c D ad tc A cc nL ret own) {a b idx : Nat} {sp dp n : Int32} {α : Type} {f : ab_W → Option α} {r : α} (hR : 1 ≤ R.frames ∧ 64 ≤ R.locals) (hp : pc + 3 = pc') (hd : decode cc pc = .ok (.invokestatic idx, 3)) (hl : Cond.methodLink own idx arraycopyName ∈ gj_tb) (hnat : Cond.native arraycopyName ∈ gj_tb) (hstat : Cond.static arraycopyName ∈ gj_tb) (hini : Cond.initialized "java/lang/System" ∈ gj_tb) (hcat : (st.map fun v => v.category).sum ≤ 8) (h : (ab_cpy w a sp b dp n).bind f = some r) (k : ∀ w1, f w1 = some r → gj_G p l e R s m args below meth c D ad tc A nL Q pc' lv st w1) : gj_G p l e R s m args below meth c D ad tc A nL Q pc lv (.int n :: .int dp :: .ref b :: .int sp :: .ref a :: st) w := by
  obtain ⟨hx, hb, hml, hown, hts, hr, hlk, hK, hA, hSt, hNw⟩ := C
  subst hp
  obtain ⟨w1, h1, h2⟩ := ab_bd h
  have k := k w1 h2
  unfold ab_cpy at h1
  obtain ⟨⟨n0, f0⟩, e0, h1⟩ := ab_bd h1
  obtain ⟨⟨n1, f1⟩, e1, h1⟩ := ab_bd h1
  split at h1
  case isTrue => cases h1
  rename_i hz
  cases h1
  simp only [not_or] at hz
  intro H locs ls hL hP hD hS
  exact va_copyi hx hb (hml.trans hL.1.symm) hown (hts _ hl) (hts _ hnat) (hts _ hstat) (hts _ hini) hK hP hD hS a b 0 0 (ab_x_get (ab_arr_some e0)) (ab_x_get (ab_arr_some e1)) rfl rfl rfl hz.1 hz.2.1 hz.2.2.1 (Nat.not_lt.mp hz.2.2.2.1) (Nat.not_lt.mp hz.2.2.2.2) (fun _ _ => rfl) hR.1 (Nat.le_trans (Nat.add_le_add_right (by rw [List.map_map]; rw [show ((fun v => v.category) ∘ ab_v ad) = (fun v : Value => v.category) from funext (ab_v_cat ad)]; exact hcat) _) (Nat.le_trans (by decide) hR.2)) hd (fun H1 locs1 hP1 hD1 hS1 => k H1 locs1 ls hL (by rw [← ab_x_set]; exact hP1) (by rw [← ab_x_set]; exact hD1) hS1)
theorem gj_mmax (C : gj_C p s m args meth c D ad tc A cc nL ret own) {x y : Int32} {idx : Nat} (hR : 1 ≤ R.frames ∧ 64 ≤ R.locals) (hp : pc + 3 = pc') (hd : decode cc pc = .ok (.invokestatic idx, 3)) (hl : Cond.methodLink own idx Lib.Math.max.name ∈ gj_tb) (hw : Cond.static Lib.Math.max.name ∈ gj_tb ∧ Cond.initialized "java/lang/Math" ∈ gj_tb ∧ Cond.code Lib.Math.max.name Lib.Math.max.code 2 (some .int) ∈ gj_tb) (hcat : (st.map fun v => v.category).sum ≤ 8) (k : gj_G p l e R s m args below meth c D ad tc A nL Q pc' lv (.int (if x < y then y else x) :: st) w) : gj_G p l e R s m args below meth c D ad tc A nL Q pc lv (.int y :: .int x :: st) w := by
  obtain ⟨hx, hb, hml, hown, hts, hr, hlk, hK, hA, hSt, hNw⟩ := C
  subst hp
  intro H locs ls hL hP hD hS
  refine va_mmax (rest := st.map (ab_v ad)) hx hb (hml.trans hL.1.symm) hown (hts _ hl) (hts _ hw.1) (hts _ hw.2.1) (hts _ hw.2.2) hR.1 ?_ (Nat.zero_le _) (Nat.zero_le _) hd (k H locs ls hL hP hD hS)
  have e9 : ((st.map (ab_v ad)).map fun v => v.category).sum ≤ 8 := by
    rw [List.map_map]; rw [show ((fun v => v.category) ∘ ab_v ad) = (fun v : Value => v.category) from funext (ab_v_cat ad)]; exact hcat
  have := hR.2
  omega
theorem gj_mmin (C : gj_C p s m args meth c D ad tc A cc nL ret own) {x y : Int32} {idx : Nat} (hR : 1 ≤ R.frames ∧ 64 ≤ R.locals) (hp : pc + 3 = pc') (hd : decode cc pc = .ok (.invokestatic idx, 3)) (hl : Cond.methodLink own idx Lib.Math.min.name ∈ gj_tb) (hw : Cond.static Lib.Math.min.name ∈ gj_tb ∧ Cond.initialized "java/lang/Math" ∈ gj_tb ∧ Cond.code Lib.Math.min.name Lib.Math.min.code 2 (some .int) ∈ gj_tb) (hcat : (st.map fun v => v.category).sum ≤ 8) (k : gj_G p l e R s m args below meth c D ad tc A nL Q pc' lv (.int (if y < x then y else x) :: st) w) : gj_G p l e R s m args below meth c D ad tc A nL Q pc lv (.int y :: .int x :: st) w := by
  obtain ⟨hx, hb, hml, hown, hts, hr, hlk, hK, hA, hSt, hNw⟩ := C
  subst hp
  intro H locs ls hL hP hD hS
  refine va_mmin (rest := st.map (ab_v ad)) hx hb (hml.trans hL.1.symm) hown (hts _ hl) (hts _ hw.1) (hts _ hw.2.1) (hts _ hw.2.2) hR.1 ?_ (Nat.zero_le _) (Nat.zero_le _) hd (k H locs ls hL hP hD hS)
  have e9 : ((st.map (ab_v ad)).map fun v => v.category).sum ≤ 8 := by
    rw [List.map_map]; rw [show ((fun v => v.category) ∘ ab_v ad) = (fun v : Value => v.category) from funext (ab_v_cat ad)]; exact hcat
  have := hR.2
  omega
end GJ
