/-- the tables' words that stay good -/
def gj_tb : List Cond := lw_tbl.filter goodWord
theorem gj_in {w : Cond} (h : w ∈ lw_tbl) (hg : goodWord w = true) : w ∈ gj_tb := List.mem_filter.mpr ⟨h, hg⟩
theorem gj_good : GoodIn gj_tb gj_tb := fun w hw => ⟨hw, good_of_word (List.mem_filter.mp hw).2⟩
theorem gj_ins {ws : List Cond} (h : ∀ w ∈ ws, w ∈ lw_tbl) (hg : ws.all goodWord = true) : ∀ w ∈ ws, w ∈ gj_tb := fun w hw => gj_in (h w hw) (List.all_eq_true.mp hg w hw)
/-! ===== the abstract world: cells by number, references as numbers; 'ad' gives the address of a number ===== -/
abbrev ab_E : Type := (Nat × Nat × ((Nat → Int32) ⊕ (Nat → Option Nat))) ⊕ (Nat × List Value)
abbrev ab_W : Type := List ab_E
def ab_v (ad : Nat → Nat) (v : Value) : Value := match v with
  | .ref k => .ref (ad k)
  | .int x => .int x
  | .long x => .long x
  | .float x => .float x
  | .double x => .double x
  | .null => .null
  | .retAddr x => .retAddr x
theorem ab_v_cat (ad : Nat → Nat) (v : Value) : (ab_v ad v).category = v.category := by cases v <;> rfl
def ab_c (ad : Nat → Nat) (tc : Nat → ClassId) (e : ab_E) : va_E := match e with
  | .inl (t, n, .inl f) => .inl (tc t, n, .inl f)
  | .inl (t, n, .inr g) => .inl (tc t, n, .inr (.inr (.inr (.inr (fun j => (g j).map ad)))))
  | .inr (c, fs) => .inr (c, fs.map (ab_v ad))
def ab_x (ad : Nat → Nat) (tc : Nat → ClassId) (w : ab_W) : va_W := w.mapIdx (fun k e => (ad k, ab_c ad tc e))
theorem ab_x_get {ad : Nat → Nat} {tc : Nat → ClassId} {w : ab_W} {k : Nat} {e : ab_E} (h : w[k]? = some e) : (ab_x ad tc w)[k]? = some (ad k, ab_c ad tc e) := by simp [ab_x, h]
theorem ab_x_set {ad : Nat → Nat} {tc : Nat → ClassId} {w : ab_W} {k : Nat} {e : ab_E} : (ab_x ad tc w).set k (ad k, ab_c ad tc e) = ab_x ad tc (w.set k e) := by
  apply List.ext_getElem?
  intro i
  simp only [ab_x, List.getElem?_set, List.getElem?_mapIdx, List.length_mapIdx]
  by_cases h : k = i
  · subst h
    simp only [if_true]
    split <;> rfl
  · simp only [h, if_false]
def ab_t (tc : Nat → ClassId) : List (ClassId × FieldType) := [(tc 0, .int), (tc 1, .object RX3), (tc 2, .object RX2), (tc 3, .object RX5)]
def ab_int (v : Value) : Option Int32 := match v with
  | .int x => some x
  | _ => none
def ab_ref (v : Value) : Option Nat := match v with
  | .ref x => some x
  | _ => none
def ab_obj (w : ab_W) (c o : Nat) : Option (List Value) := match w[o]? with
  | some (.inr (c', fs)) => if c' = c then some fs else none
  | _ => none
def ab_is (w : ab_W) (c o : Nat) : Bool := (ab_obj w c o).isSome
def ab_getI (w : ab_W) (c o k : Nat) : Option Int32 := (ab_obj w c o).bind fun fs => (fs[k]?).bind ab_int
def ab_getR (w : ab_W) (c o k : Nat) : Option Nat := (ab_obj w c o).bind fun fs => (fs[k]?).bind ab_ref
def ab_put (w : ab_W) (c o k : Nat) (v : Value) : Option ab_W := (ab_obj w c o).bind fun fs => if k < fs.length then some (w.set o (.inr (c, fs.set k v))) else none
def ab_putI (w : ab_W) (c o k : Nat) (x : Int32) : Option ab_W := ab_put w c o k (.int x)
def ab_putZ (w : ab_W) (c o k : Nat) (x : Int32) : Option ab_W := if x = 0 ∨ x = 1 then ab_put w c o k (.int x) else none
def ab_putR (w : ab_W) (c o k : Nat) (x : Nat) : Option ab_W := ab_put w c o k (.ref x)
def ab_arr (w : ab_W) (a : Nat) : Option (Nat × (Nat → Int32)) := match w[a]? with
  | some (.inl (0, n, .inl f)) => some (n, f)
  | _ => none
def ab_rd (n : Nat) (f : Nat → Int32) (i : Int32) : Option Int32 := if i < 0 ∨ n ≤ i.toNatClampNeg then none else some (f i.toNatClampNeg)
def ab_ald (w : ab_W) (a : Nat) (i : Int32) : Option Int32 := (ab_arr w a).bind fun q => ab_rd q.1 q.2 i
def ab_ast (w : ab_W) (a : Nat) (i x : Int32) : Option ab_W := (ab_arr w a).bind fun q => if i < 0 ∨ q.1 ≤ i.toNatClampNeg then none else some (w.set a (.inl (0, q.1, .inl (upd q.2 i.toNatClampNeg x))))
def ab_len (w : ab_W) (a : Nat) : Option Int32 := (ab_arr w a).map fun q => Int32.ofNat q.1
def ab_refs (w : ab_W) (t a : Nat) : Option (Nat × (Nat → Option Nat)) := match w[a]? with
  | some (.inl (t', n, .inr g)) => if t' = t then some (n, g) else none
  | _ => none
def ab_rald (w : ab_W) (t a : Nat) (i : Int32) : Option Nat := (ab_refs w t a).bind fun q => if i < 0 ∨ q.1 ≤ i.toNatClampNeg then none else q.2 i.toNatClampNeg
def ab_cpy (w : ab_W) (a : Nat) (sp : Int32) (b : Nat) (dp n : Int32) : Option ab_W := (ab_arr w a).bind fun q => (ab_arr w b).bind fun r =>
  if sp < 0 ∨ dp < 0 ∨ n < 0 ∨ q.1 < sp.toNatClampNeg + n.toNatClampNeg ∨ r.1 < dp.toNatClampNeg + n.toNatClampNeg then none
  else some (w.set b (.inl (0, r.1, .inl (va_cpy q.2 r.2 sp.toNatClampNeg dp.toNatClampNeg n.toNatClampNeg))))
def ab_div (x y : Int32) : Option Int32 := if y = 0 then none else some (x / y)
def ab_rem (x y : Int32) : Option Int32 := if y = 0 then none else some (x - x / y * y)
def ab_bool (x : Int32) : Option Int32 := if x = 0 ∨ x = 1 then some x else none
def ab_above (i : Nat) : Int32 := ([-1, 0, 0, 0, 1, 2, 3] : List Int32).getD i 0
def ab_bodies (i : Nat) : Int32 := ([10, 11, 12, 13, 20, 0, 0, 0, 0, 30, 0, 0, 0, 0, 40, 0, 0, 0, 0, 50, 0, 60, 0, 0, 0, 0, 70, 71] : List Int32).getD i 0
def ab_stat (a : Nat) : Nat × (Nat → Int32) := if a = 1000 then (7, ab_above) else (28, ab_bodies)
theorem ab_obj_some {w : ab_W} {c o : Nat} {fs : List Value} (h : ab_obj w c o = some fs) : w[o]? = some (.inr (c, fs)) := by
  unfold ab_obj at h
  split at h
  · split at h
    · next h1 h2 => subst h2; cases h; exact h1
    · cases h
  · cases h
theorem ab_arr_some {w : ab_W} {a n : Nat} {f : Nat → Int32} (h : ab_arr w a = some (n, f)) : w[a]? = some (.inl (0, n, .inl f)) := by
  unfold ab_arr at h
  split at h
  · next h1 => cases h; exact h1
  · cases h
theorem ab_refs_some {w : ab_W} {t a n : Nat} {g : Nat → Option Nat} (h : ab_refs w t a = some (n, g)) : w[a]? = some (.inl (t, n, .inr g)) := by
  unfold ab_refs at h
  split at h
  · split at h
    · next h1 h2 => subst h2; cases h; exact h1
    · cases h
  · cases h
theorem ab_int_some {v : Value} {x : Int32} (h : ab_int v = some x) : v = .int x := by
  cases v <;> simp [ab_int] at h
  rw [h]
theorem ab_ref_some {v : Value} {x : Nat} (h : ab_ref v = some x) : v = .ref x := by
  cases v <;> simp [ab_ref] at h
  rw [h]
theorem ab_bd {α β : Type} {x : Option α} {f : α → Option β} {r : β} (h : x.bind f = some r) : ∃ a, x = some a ∧ f a = some r := by
  cases x with
  | none => cases h
  | some a => exact ⟨a, rfl, h⟩
def ab_b2 {α : Type} (x : Option (Int32 × ab_W)) (f : Int32 → ab_W → Option α) : Option α := match x with
  | none => none
  | some q => f q.1 q.2
theorem ab_bd2 {α : Type} {x : Option (Int32 × ab_W)} {f : Int32 → ab_W → Option α} {r : α} (h : ab_b2 x f = some r) : ∃ a b, x = some (a, b) ∧ f a b = some r := by
  cases x with
  | none => cases h
  | some q => exact ⟨q.1, q.2, rfl, h⟩
theorem ab_ite {α : Type} {c : Prop} [Decidable c] {x : Option α} {r : α} (h : (if c then x else none) = some r) : c ∧ x = some r := by
  by_cases hc : c
  · rw [if_pos hc] at h; exact ⟨hc, h⟩
  · rw [if_neg hc] at h; cases h
theorem ab_getI_some {w : ab_W} {c o k : Nat} {x : Int32} (h : ab_getI w c o k = some x) : ∃ fs, w[o]? = some (.inr (c, fs)) ∧ fs[k]? = some (.int x) := by
  obtain ⟨fs, h1, h2⟩ := ab_bd h
  obtain ⟨v, h3, h4⟩ := ab_bd h2
  exact ⟨fs, ab_obj_some h1, by rw [h3, ab_int_some h4]⟩
theorem ab_getR_some {w : ab_W} {c o k x : Nat} (h : ab_getR w c o k = some x) : ∃ fs, w[o]? = some (.inr (c, fs)) ∧ fs[k]? = some (.ref x) := by
  obtain ⟨fs, h1, h2⟩ := ab_bd h
  obtain ⟨v, h3, h4⟩ := ab_bd h2
  exact ⟨fs, ab_obj_some h1, by rw [h3, ab_ref_some h4]⟩
theorem ab_put_some {w w1 : ab_W} {c o k : Nat} {v : Value} (h : ab_put w c o k v = some w1) : ∃ fs, w[o]? = some (.inr (c, fs)) ∧ k < fs.length ∧ w1 = w.set o (.inr (c, fs.set k v)) := by
  obtain ⟨fs, h1, h2⟩ := ab_bd h
  split at h2
  · next h3 => cases h2; exact ⟨fs, ab_obj_some h1, h3, rfl⟩
  · cases h2
theorem ab_rd_some {n : Nat} {f : Nat → Int32} {i x : Int32} (h : ab_rd n f i = some x) : vp_in i n ∧ x = f i.toNatClampNeg := by
  unfold ab_rd at h
  split at h
  · cases h
  · next h1 => cases h; exact ⟨h1, rfl⟩
theorem ab_ald_some {w : ab_W} {a : Nat} {i x : Int32} (h : ab_ald w a i = some x) : ∃ n f, w[a]? = some (.inl (0, n, .inl f)) ∧ vp_in i n ∧ x = f i.toNatClampNeg := by
  obtain ⟨⟨n, f⟩, h1, h2⟩ := ab_bd h
  exact ⟨n, f, ab_arr_some h1, ab_rd_some h2⟩
theorem ab_ast_some {w w1 : ab_W} {a : Nat} {i x : Int32} (h : ab_ast w a i x = some w1) : ∃ n f, w[a]? = some (.inl (0, n, .inl f)) ∧ vp_in i n ∧ w1 = w.set a (.inl (0, n, .inl (upd f i.toNatClampNeg x))) := by
  obtain ⟨⟨n, f⟩, h1, h2⟩ := ab_bd h
  split at h2
  · cases h2
  · next h3 => cases h2; exact ⟨n, f, ab_arr_some h1, h3, rfl⟩
theorem ab_rald_some {w : ab_W} {t a x : Nat} {i : Int32} (h : ab_rald w t a i = some x) : ∃ n g, w[a]? = some (.inl (t, n, .inr g)) ∧ vp_in i n ∧ g i.toNatClampNeg = some x := by
  obtain ⟨⟨n, g⟩, h1, h2⟩ := ab_bd h
  split at h2
  · cases h2
  · next h3 => exact ⟨n, g, ab_refs_some h1, h3, h2⟩
/-! ===== the judgement ===== -/
def gj_R (d : Nat) : Room := { frames := d, cells := 0, slots := 0, locals := 64 * d }
/-- the static rows -/
def gj_S (ad : Nat → Nat) (A : Nat → Prop) (U : State) (H : Heap) : Prop :=
  (va_Z RX9 "ABOVE" "[I" (.ref (ad 1000)) A U H ∧ va_T .int (ad 1000) 7 (fun j => .int (ab_above j)) A U H) ∧ (va_Z RX8 "BODIES" "[I" (.ref (ad 1001)) A U H ∧ va_T .int (ad 1001) 28 (fun j => .int (ab_bodies j)) A U H)
theorem gj_S.moved {ad : Nat → Nat} {A : Nat → Prop} {u U : State} {H : Heap} (hvm : u.vm.Alike U.vm) (h : gj_S ad A u H) : gj_S ad A U H :=
  ⟨⟨h.1.1.moved hvm, h.1.2.moved hvm⟩, ⟨h.2.1.moved hvm, h.2.2.moved hvm⟩⟩
theorem gj_S.kept {ad : Nat → Nat} {A : Nat → Prop} {U : State} {H H1 : Heap} (h : gj_S ad A U H) (hq : ∀ a : Nat, a < H.size → ¬ A a → H1[a]? = H[a]?) : gj_S ad A U H1 :=
  ⟨⟨h.1.1.kept hq, h.1.2.kept hq⟩, ⟨h.2.1.kept hq, h.2.2.kept hq⟩⟩
theorem gj_S.narrow {ad : Nat → Nat} {A B : Nat → Prop} {U : State} {H : Heap} (h : gj_S ad A U H) (hAB : ∀ q, B q → A q) : gj_S ad B U H :=
  ⟨⟨h.1.1.narrow hAB, h.1.2.narrow hAB⟩, ⟨h.2.1.narrow hAB, h.2.2.narrow hAB⟩⟩
theorem gj_tld {p : Program} {l : Launch} {e : Env} {R : Room} {s : State} {m : MethodId} {args : Array Value} {below : List Frame} {meth : Method} {c : Code} {H : Heap} {locs : List Loc} {cells slots : Nat} {Q : State → Prop} {cc : ByteArray} {pc : Nat} {ls : Array Slot} {rest : List Value} {A : Nat → Prop} {t N : Nat} {f : Nat → Int32} (hexec : p.tables.exec = Jvm.exec) (hb : c.code = cc) (hT : va_T .int t N (fun j => .int (f j)) A s s.heap) (hS : va_S A s.heap H locs) {i : Int32} (hin : vp_in i N) (hdg : decode cc pc = .ok (.iaload, 1))
    (kk : W p l e R s m args below meth c H locs cells slots Q (F0 m (pc + 1) ls (.int (f i.toNatClampNeg) :: rest))) : W p l e R s m args below meth c H locs cells slots Q (F0 m pc ls (.int i :: .ref t :: rest)) := by
  obtain ⟨cell, h1, h2, h3, h4, h5, h6, h7⟩ := hT
  have hlt : i.toNatClampNeg < N := Nat.not_le.mp fun q => hin (Or.inr q)
  exact W.iald (v := .int (f i.toNatClampNeg)) hexec hb (by rw [hS.2.1 t (Array.getElem?_eq_some_iff.mp h1).1 h7]; exact h1) h2 h3 (fun q => q.elim (fun q => hin (Or.inl q)) (fun q => by omega)) (h6 _ hlt) rfl rfl hdg kk
/-- a nest mate's static field, linked -/
def gj_N (U : State) : Prop := va_Nw (.fieldLinkNest RX8 47 RX9 "ABOVE" "[I" "CraneFolds") U
/-- what a state holds: the world w, the classes, room for what is new, the static rows -/
def gj_B (D : va_G) (ad : Nat → Nat) (tc : Nat → ClassId) (A : Nat → Prop) (w : ab_W) (U : State) : Prop :=
  va_P D vwCl (ab_x ad tc w) U.heap ∧ va_K D vwCl (ab_t tc) U ∧ va_D A (ab_x ad tc w) ∧ (∀ q : Nat, U.heap.size ≤ q → A q) ∧ gj_S ad A U U.heap ∧ gj_N U
def gj_E (D : va_G) (ad : Nat → Nat) (tc : Nat → ClassId) (A : Nat → Prop) (w : ab_W) (t : State) : Prop :=
  va_P D vwCl (ab_x ad tc w) t.heap ∧ va_D A (ab_x ad tc w)
def gj_ws (y : MethodName) (cc : ByteArray) (nL : Nat) (ret : Option FieldType) : List Cond := .code y cc nL ret :: gj_tb
/-- a method's contract: with these arguments in this world it answers r, and the world is w1 -/
def gj_Mi (y : MethodName) (cc : ByteArray) (nL : Nat) (ret : Option FieldType) (d : Nat) (av : List Value) (w : ab_W) (r : Int32) (w1 : ab_W) : Prop :=
  ∀ (l : Launch) (D : va_G) (ad : Nat → Nat) (tc : Nat → ClassId) (A : Nat → Prop), Met l y (gj_ws y cc nL ret) (gj_R d) (va_Pc (av.map (ab_v ad)) (gj_B D ad tc A w)) (va_Qi (fun r' w' => r' = r ∧ w' = w1) (gj_E D ad tc A) A) 0 0 A
def gj_Mv (y : MethodName) (cc : ByteArray) (nL : Nat) (ret : Option FieldType) (d : Nat) (av : List Value) (w w1 : ab_W) : Prop :=
  ∀ (l : Launch) (D : va_G) (ad : Nat → Nat) (tc : Nat → ClassId) (A : Nat → Prop), Met l y (gj_ws y cc nL ret) (gj_R d) (va_Pc (av.map (ab_v ad)) (gj_B D ad tc A w)) (va_Qv (fun w' => w' = w1) (gj_E D ad tc A) A) 0 0 A
def gj_C (p : Program) (s : State) (m : MethodId) (args : Array Value) (meth : Method) (c : Code) (D : va_G) (ad : Nat → Nat) (tc : Nat → ClassId) (A : Nat → Prop) (cc : ByteArray) (nL : Nat) (ret : Option FieldType) (own : String) : Prop :=
  p.tables.exec = Jvm.exec ∧ c.code = cc ∧ c.maxLocals = nL ∧ s.vm.findClass own = some m.cls ∧ (∀ w ∈ gj_tb, w.before args s = true) ∧ meth.sig.returnType = ret ∧ meth.locks = false ∧ va_K D vwCl (ab_t tc) s ∧ (∀ q : Nat, s.heap.size ≤ q → A q) ∧ gj_S ad A s s.heap ∧ gj_N s
def gj_L (ad : Nat → Nat) (nL : Nat) (lv : List (Option Value)) (ls : Array Slot) : Prop := ls.size = nL ∧ lv_wf ls ∧ ∀ (i : Nat) (v : Value), lv[i]? = some (some v) → ls[i]? = some (.val (ab_v ad v))
def gj_G (p : Program) (l : Launch) (e : Env) (R : Room) (s : State) (m : MethodId) (args : Array Value) (below : List Frame) (meth : Method) (c : Code) (D : va_G) (ad : Nat → Nat) (tc : Nat → ClassId) (A : Nat → Prop) (nL : Nat) (Q : State → Prop) (pc : Nat) (lv : List (Option Value)) (st : List Value) (w : ab_W) : Prop :=
  ∀ (H : Heap) (locs : List Loc) (ls : Array Slot), gj_L ad nL lv ls → va_P D vwCl (ab_x ad tc w) H → va_D A (ab_x ad tc w) → va_S A s.heap H locs → W p l e R s m args below meth c H locs 0 0 Q (F0 m pc ls (st.map (ab_v ad)))
def gj_Qi (D : va_G) (ad : Nat → Nat) (tc : Nat → ClassId) (A : Nat → Prop) (below : List Frame) (args : Array Value) (s : State) (r : Int32) (w1 : ab_W) : State → Prop := MQ below (va_Qi (fun r' w' => r' = r ∧ w' = w1) (gj_E D ad tc A) A) args s 0 0 A
def gj_Qv (D : va_G) (ad : Nat → Nat) (tc : Nat → ClassId) (A : Nat → Prop) (below : List Frame) (args : Array Value) (s : State) (w1 : ab_W) : State → Prop := MQ below (va_Qv (fun w' => w' = w1) (gj_E D ad tc A) A) args s 0 0 A
def ab_lw : List Value → List (Option Value)
  | [] => []
  | v :: vs => if v.category = 2 then some v :: none :: ab_lw vs else some v :: ab_lw vs
def ab_lv (av : List Value) (n : Nat) : List (Option Value) := ab_lw av ++ List.replicate (n - (ab_lw av).length) none
theorem ab_lw_args (ad : Nat → Nat) : ∀ (av : List Value) (o i : Nat) (v : Value), (ab_lw av)[i]? = some (some v) → (o + i, ab_v ad v) ∈ lv_args o (av.map (ab_v ad)) := by
  intro av
  induction av with
  | nil => intro o i v h; simp [ab_lw] at h
  | cons u us ih =>
    intro o i v h
    simp only [List.map_cons, lv_args, ab_v_cat]
    by_cases hc : u.category = 2
    · simp only [ab_lw, hc, if_true] at h ⊢
      match i, h with
      | 0, h =>
        simp at h
        subst h
        exact List.mem_cons_self
      | 1, h => simp at h
      | i + 2, h =>
        have h2 : (ab_lw us)[i]? = some (some v) := by simpa using h
        have := ih (o + 2) i v h2
        rw [show o + 2 + i = o + (i + 2) by omega] at this
        exact List.mem_cons_of_mem _ this
    · simp only [ab_lw, hc, if_false] at h ⊢
      match i, h with
      | 0, h =>
        simp at h
        subst h
        exact List.mem_cons_self
      | i + 1, h =>
        have h2 : (ab_lw us)[i]? = some (some v) := by simpa using h
        have := ih (o + 1) i v h2
        rw [show o + 1 + i = o + (i + 1) by omega] at this
        exact List.mem_cons_of_mem _ this
theorem ab_lv_args (ad : Nat → Nat) (av : List Value) (n i : Nat) (v : Value) (h : (ab_lv av n)[i]? = some (some v)) : (i, ab_v ad v) ∈ lv_args 0 (av.map (ab_v ad)) := by
  unfold ab_lv at h
  rw [List.getElem?_append] at h
  split at h
  · have := ab_lw_args ad av 0 i v h
    simpa using this
  · rw [List.getElem?_replicate] at h
    split at h
    · cases h
    · cases h
theorem ab_sl_len (ad : Nat → Nat) : ∀ av : List Value, (lg_sl (av.map (ab_v ad))).length = (ab_lw av).length := by
  intro av
  induction av with
  | nil => rfl
  | cons u us ih =>
    simp only [lg_sl] at ih
    by_cases hc : u.category = 2
    · simp only [lg_sl, List.map_cons, List.flatMap_cons, ab_v_cat, hc, if_true, ab_lw, List.length_append, List.length_cons, ih, List.length_nil]
      omega
    · simp only [lg_sl, List.map_cons, List.flatMap_cons, ab_v_cat, hc, if_false, ab_lw, List.length_append, List.length_cons, ih, List.length_nil]
      omega
/-! ===== locals ===== -/
def gj_ok (lv : List (Option Value)) (i : Nat) : Bool := match i with
  | 0 => true
  | j + 1 => match lv[j]? with
    | some (some (.long _)) => false
    | some (some (.double _)) => false
    | _ => true
def gj_pr (ad : Nat → Nat) (lv : List (Option Value)) : List (Nat × Value) := (List.range lv.length).filterMap (fun i => match lv[i]? with
  | some (some v) => some (i, ab_v ad v)
  | _ => none)
theorem gj_pr_mem {ad : Nat → Nat} {lv : List (Option Value)} {q : Nat × Value} : q ∈ gj_pr ad lv ↔ ∃ v, lv[q.1]? = some (some v) ∧ q.2 = ab_v ad v := by
  unfold gj_pr
  rw [List.mem_filterMap]
  constructor
  · rintro ⟨i, hi, h⟩
    split at h
    · next v hv => cases h; exact ⟨v, hv, rfl⟩
    · cases h
  · rintro ⟨v, h1, h2⟩
    refine ⟨q.1, List.mem_range.mpr (List.getElem?_eq_some_iff.mp h1).1, ?_⟩
    rw [h1]
    simp only [← h2]
theorem gj_Lh {ad : Nat → Nat} {nL : Nat} {lv : List (Option Value)} {ls : Array Slot} (h : gj_L ad nL lv ls) : lv_has ls nL (gj_pr ad lv) := by
  refine ⟨h.1, h.2.1, fun q hq => ?_⟩
  obtain ⟨v, h1, h2⟩ := gj_pr_mem.mp hq
  rw [h2]
  exact h.2.2 _ _ h1
theorem gj_Lk (ad : Nat → Nat) {lv : List (Option Value)} {i : Nat} {v : Value} (h : lv[i]? = some (some v)) : ∃ k : Nat, (gj_pr ad lv)[k]? = some (i, ab_v ad v) :=
  List.getElem?_of_mem (gj_pr_mem.mpr ⟨v, h, rfl⟩)
theorem gj_Ls {ad : Nat → Nat} {nL i : Nat} {lv : List (Option Value)} {ls ls' : Array Slot} {v : Value} (h : gj_L ad nL lv ls) (hok : gj_ok lv i = true) (h' : lv_has ls' nL ((i, ab_v ad v) :: (gj_pr ad lv).filter (fun q => !(q.1 == i) && !(q.1 + 1 == i && q.2.category == 2)))) : gj_L ad nL (lv.set i (some v)) ls' := by
  refine ⟨h'.1, h'.2.1, fun j u hu => ?_⟩
  rw [List.getElem?_set] at hu
  by_cases hj : i = j
  · subst hj
    simp only [if_true] at hu
    split at hu
    · cases hu
      exact h'.2.2 (i, ab_v ad v) List.mem_cons_self
    · cases hu
  · rw [if_neg hj] at hu
    refine h'.2.2 (j, ab_v ad u) (List.mem_cons_of_mem _ (List.mem_filter.mpr ⟨gj_pr_mem.mpr ⟨u, hu, rfl⟩, ?_⟩))
    have h1 : (j == i) = false := by simpa using fun e : j = i => hj e.symm
    simp only [h1, Bool.not_false, Bool.true_and, Bool.not_eq_true', Bool.and_eq_false_iff]
    by_cases h2 : j + 1 = i
    · right
      subst h2
      simp only [gj_ok, hu] at hok
      rw [ab_v_cat]
      cases u <;> simp [Value.category] at hok ⊢
    · left
      simpa using h2
theorem gj_nZ {x : Int32} (h : x = 0 ∨ x = 1) : x &&& 1 = x := by rcases h with rfl | rfl <;> decide
theorem gj_fitZ {x : Int32} (h : x = 0 ∨ x = 1) : fits .boolean (.int x) = true := by rcases h with rfl | rfl <;> decide
/-! ===== entry, returns ===== -/
theorem gj_body {y : MethodName} {cc : ByteArray} {nL : Nat} {ret : Option FieldType} {d : Nat} {av : List Value} {w : ab_W} {own : String} {lv0 : List (Option Value)} {l : Launch} {D : va_G} {ad : Nat → Nat} {tc : Nat → ClassId} {A : Nat → Prop} {Qc : Array Value → State → Outcome → State → Prop}
    (hy : plainName y.cls = true) (hc : y.cls = own) (hn : (ab_lw av).length ≤ nL) (hlv : ab_lv av nL = lv0)
    (body : ∀ (p : Program) (e : Env) (s : State) (m : MethodId) (args : Array Value) (below : List Frame) (meth : Method) (c : Code), gj_C p s m args meth c D ad tc A cc nL ret own → gj_G p l e (gj_R d) s m args below meth c D ad tc A nL (MQ below Qc args s 0 0 A) 0 lv0 [] w) :
    Met l y (gj_ws y cc nL ret) (gj_R d) (va_Pc (av.map (ab_v ad)) (gj_B D ad tc A w)) Qc 0 0 A := by
  refine Met.ofW (cc := cc) (maxL := nL) (ret := ret) hy rfl ?_
  intro p e s m args below meth c s₁ B hml hv
  obtain ⟨rfl, hP, hK, hD, hA, hS, hNw⟩ := hv
  have hts0 := atoms_spec (ws := gj_ws y cc nL ret) B.pre
  have hts : ∀ w ∈ gj_tb, w.before (av.map (ab_v ad)).toArray s = true := fun w h => hts0 w (List.mem_cons_of_mem _ h)
  have hown : s.vm.findClass own = some m.cls := by
    rw [← hc]
    exact findClass_of_methodNamed B.named
  have hl := lv_entry (av.map (ab_v ad)) (n := nL) (by rw [ab_sl_len]; exact hn)
  rw [lg_entry_eq]
  generalize (lg_sl (av.map (ab_v ad)) ++ List.replicate (nL - (lg_sl (av.map (ab_v ad))).length) Slot.unset).toArray = ls at hl ⊢
  have hL : gj_L ad nL lv0 ls := ⟨hl.1, hl.2.1, fun i v h => by subst hlv; exact hl.2.2 (i, ab_v ad v) (ab_lv_args ad av nL i v h)⟩
  exact body p e s m _ below meth c ⟨B.exec, B.bytes, hml, hown, hts, B.returns, B.notSynchronized, hK, hA, hS, hNw⟩ s.heap [] ls hL hP hD va_S.rf
theorem gj_Mi_of {y : MethodName} {cc : ByteArray} {nL : Nat} {ret : Option FieldType} {d : Nat} {av : List Value} {w : ab_W} {r : Int32} {w1 : ab_W} (own : String) (lv0 : List (Option Value))
    (hy : plainName y.cls = true) (hc : y.cls = own) (hn : (ab_lw av).length ≤ nL) (hlv : ab_lv av nL = lv0)
    (body : ∀ (p : Program) (l : Launch) (e : Env) (s : State) (m : MethodId) (args : Array Value) (below : List Frame) (meth : Method) (c : Code) (D : va_G) (ad : Nat → Nat) (tc : Nat → ClassId) (A : Nat → Prop), gj_C p s m args meth c D ad tc A cc nL ret own → gj_G p l e (gj_R d) s m args below meth c D ad tc A nL (gj_Qi D ad tc A below args s r w1) 0 lv0 [] w) :
    gj_Mi y cc nL ret d av w r w1 := fun l D ad tc A => gj_body hy hc hn hlv (fun p e s m args below meth c C => body p l e s m args below meth c D ad tc A C)
theorem gj_Mv_of {y : MethodName} {cc : ByteArray} {nL : Nat} {ret : Option FieldType} {d : Nat} {av : List Value} {w : ab_W} {w1 : ab_W} (own : String) (lv0 : List (Option Value))
    (hy : plainName y.cls = true) (hc : y.cls = own) (hn : (ab_lw av).length ≤ nL) (hlv : ab_lv av nL = lv0)
    (body : ∀ (p : Program) (l : Launch) (e : Env) (s : State) (m : MethodId) (args : Array Value) (below : List Frame) (meth : Method) (c : Code) (D : va_G) (ad : Nat → Nat) (tc : Nat → ClassId) (A : Nat → Prop), gj_C p s m args meth c D ad tc A cc nL ret own → gj_G p l e (gj_R d) s m args below meth c D ad tc A nL (gj_Qv D ad tc A below args s w1) 0 lv0 [] w) :
    gj_Mv y cc nL ret d av w w1 := fun l D ad tc A => gj_body hy hc hn hlv (fun p e s m args below meth c C => body p l e s m args below meth c D ad tc A C)
section GJR
variable {p : Program} {l : Launch} {e : Env} {R : Room} {s : State} {m : MethodId} {args : Array Value} {below : List Frame} {meth : Method} {c : Code} {D : va_G} {ad : Nat → Nat} {tc : Nat → ClassId} {A : Nat → Prop} {nL : Nat} {pc pc' : Nat} {lv : List (Option Value)} {st : List Value} {w : ab_W} {cc : ByteArray} {own : String}
theorem gj_iret (C : gj_C p s m args meth c D ad tc A cc nL (some .int) own) {x r : Int32} {w1 : ab_W} (hd : decode cc pc = .ok (.ireturn, 1)) (h : (some (x, w) : Option (Int32 × ab_W)) = some (r, w1)) : gj_G p l e R s m args below meth c D ad tc A nL (gj_Qi D ad tc A below args s r w1) pc lv [.int x] w := by
  obtain ⟨hx, hb, hml, hown, hts, hr, hlk, hK, hA, hSt, hNw⟩ := C
  cases h
  intro H locs ls hL hP hD hS
  exact W.iret (v := x) hx hb hr (fun t ht hW => ⟨⟨x, w, rfl, ⟨rfl, rfl⟩, by rw [ht]; exact hP, hD⟩, hS.F ht⟩) hS.2.2 hd hlk
theorem gj_zret (C : gj_C p s m args meth c D ad tc A cc nL (some .boolean) own) {x r : Int32} {w1 : ab_W} (hd : decode cc pc = .ok (.ireturn, 1)) (h : (ab_bool x).bind (fun y => some (y, w)) = some (r, w1)) : gj_G p l e R s m args below meth c D ad tc A nL (gj_Qi D ad tc A below args s r w1) pc lv [.int x] w := by
  obtain ⟨hx, hb, hml, hown, hts, hr, hlk, hK, hA, hSt, hNw⟩ := C
  obtain ⟨y, h1, h2⟩ := ab_bd h
  unfold ab_bool at h1
  split at h1
  case isFalse => cases h1
  rename_i hz
  cases h1
  cases h2
  intro H locs ls hL hP hD hS
  exact W.zret (v := x) hx hb hr (by show Value.int (x &&& 1) = _; rw [gj_nZ hz]) (fun t ht hW => ⟨⟨x, w, rfl, ⟨rfl, rfl⟩, by rw [ht]; exact hP, hD⟩, hS.F ht⟩) hS.2.2 hd hlk
theorem gj_vret (C : gj_C p s m args meth c D ad tc A cc nL none own) {w1 : ab_W} (hd : decode cc pc = .ok (.return_, 1)) (h : (some w : Option ab_W) = some w1) : gj_G p l e R s m args below meth c D ad tc A nL (gj_Qv D ad tc A below args s w1) pc lv [] w := by
  obtain ⟨hx, hb, hml, hown, hts, hr, hlk, hK, hA, hSt, hNw⟩ := C
  cases h
  intro H locs ls hL hP hD hS
  exact W.vret hx hb hr (fun t ht hW => ⟨⟨w, rfl, rfl, by rw [ht]; exact hP, hD⟩, hS.F ht⟩) hS.2.2 hd hlk
end GJR
/-! ===== calls ===== -/
theorem gj_B.blind {D : va_G} {ad : Nat → Nat} {tc : Nat → ClassId} {A : Nat → Prop} {w : ab_W} {av : List Value} : FrameBlind (va_Pc av (gj_B D ad tc A w)) := by
  intro a U g mk q
  obtain ⟨q0, qP, qK, qD, qA, qS, qN⟩ := q
  exact ⟨q0, qP, va_K.moved (u := U) (U := U.calling g mk a) (Vm.Alike.refl U.vm) qK, qD, qA, gj_S.moved (u := U) (U := U.calling g mk a) (Vm.Alike.refl U.vm) qS, va_Nw.same (u := U) (U := U.calling g mk a) rfl rfl qN⟩
/-- what a callee's words must be, and its descriptor -/
def gj_Y (y : MethodName) (cc : ByteArray) (nL : Nat) (ret : Option FieldType) (n : Nat) : Prop :=
  Cond.code y cc nL ret ∈ gj_tb ∧ Cond.initialized y.cls ∈ gj_tb ∧ (y.cls ≠ "java/lang/invoke/MethodHandle" ∧ y.cls ≠ "java/lang/invoke/VarHandle") ∧ (parseMethodDescriptor y.desc).map (fun d => d.parameters.length) = some n ∧ nL ≤ 40
def gj_YV (y : MethodName) (cc : ByteArray) (nL : Nat) (ret : Option FieldType) (n : Nat) : Prop := gj_Y y cc nL ret n ∧ Cond.instanceMethod y ∈ gj_tb ∧ Cond.selects y.cls y y ∈ gj_tb
def gj_YC (y : MethodName) (cc : ByteArray) (nL : Nat) (ret : Option FieldType) (n ci : Nat) : Prop := gj_YV y cc nL ret n ∧ ∃ (T : u_T) (N : Nat), vwCl[ci]? = some (y.cls, T, N)
def gj_YS (y : MethodName) (cc : ByteArray) (nL : Nat) (ret : Option FieldType) (n : Nat) : Prop := gj_Y y cc nL ret n ∧ Cond.static y ∈ gj_tb
section GJC
variable {p : Program} {l : Launch} {e : Env} {s : State} {m : MethodId} {args : Array Value} {below : List Frame} {meth : Method} {c : Code} {D : va_G} {ad : Nat → Nat} {tc : Nat → ClassId} {A : Nat → Prop} {nL : Nat} {Q : State → Prop} {pc pc' : Nat} {lv : List (Option Value)} {st : List Value} {w : ab_W} {cc : ByteArray} {ret : Option FieldType} {own : String}
theorem gj_callB {d dy : Nat} {y : MethodName} {cy : ByteArray} {ny n idx : Nat} {ry : Option FieldType} (hts : ∀ w ∈ gj_tb, w.before args s = true) (hY : gj_Y y cy ny ry n) (hl : Cond.methodLink own idx y ∈ gj_tb) (hR : dy + 1 ≤ d) : CallB (gj_R d) s args own idx y cy ny ry (gj_ws y cy ny ry) (gj_R dy) 0 0 n := by
  obtain ⟨h1, h2, h3, h4, h5⟩ := hY
  refine callB_of (ws' := gj_tb) n hts ?_ rfl rfl rfl (hts _ h2) (hts _ hl) ⟨h3.1, h3.2, h4⟩ ⟨hR, ?_⟩
  · intro w hw
    rcases List.mem_cons.mp hw with rfl | hw
    · exact gj_good _ h1
    · exact gj_good _ hw
  · show 8 + (ny + 11) + 64 * dy ≤ 64 * d
    omega
theorem gj_pre (hK : va_K D vwCl (ab_t tc) s) (hA : ∀ q : Nat, s.heap.size ≤ q → A q) (hSt : gj_S ad A s s.heap) (hNw : gj_N s) {H : Heap} {locs : List Loc} (hP : va_P D vwCl (ab_x ad tc w) H) (hD : va_D A (ab_x ad tc w)) (hS : va_S A s.heap H locs) (av : List Value) (U : State) (hU : U.heap = H) (hW : s.WarmedH U.vm) : va_Pc (av.map (ab_v ad)) (gj_B D ad tc A w) (av.map (ab_v ad)).toArray U := by
  refine ⟨rfl, by rw [hU]; exact hP, va_K.moved hW.alike hK, hD, fun q hq => hA q (Nat.le_trans hS.1 (by rw [← hU]; exact hq)), ?_, va_Nw.warmF hW hNw⟩
  rw [hU]
  exact (hSt.moved hW.alike).kept hS.2.1
theorem gj_callVi (C : gj_C p s m args meth c D ad tc A cc nL ret own) {d dy : Nat} {y : MethodName} {cy : ByteArray} {ny n idx ci a : Nat} {ry : Option FieldType} {As st0 : List Value} {α : Type} {f : Int32 → ab_W → Option α} {r0 : α} {S : Option (Int32 × ab_W)}
    (hp : pc + 3 = pc') (hd : decode cc pc = .ok (.invokevirtual idx, 3)) (hl : Cond.methodLink own idx y ∈ gj_tb) (hY : gj_YC y cy ny ry n ci) (h : ab_b2 S f = some r0) (hM : ∀ r w1, S = some (r, w1) → gj_Mi y cy ny ry dy (.ref a :: As) w r w1 ∧ ab_is w ci a = true) (hR : dy + 1 ≤ d) (hst : st0 = As.reverse ++ .ref a :: st) (hn : As.length = n) (hcat : (st.map fun v => v.category).sum ≤ 8)
    (k : ∀ r w1, f r w1 = some r0 → gj_G p l e (gj_R d) s m args below meth c D ad tc A nL Q pc' lv (.int r :: st) w1) : gj_G p l e (gj_R d) s m args below meth c D ad tc A nL Q pc lv st0 w := by
  obtain ⟨hx, hb, hml, hown, hts, hr, hlk, hK, hA, hSt, hNw⟩ := C
  subst hp
  subst hst
  obtain ⟨r, w1, h1, h2⟩ := ab_bd2 h
  obtain ⟨hY, T, N, hci⟩ := hY
  obtain ⟨M, hi⟩ := hM r w1 h1
  intro H locs ls hL hP hD hS
  obtain ⟨fs, hfs⟩ := Option.isSome_iff_exists.mp (show (ab_obj w ci a).isSome = true from hi)
  have hrec := va_recv hK hP hci (ab_x_get (ab_obj_some hfs))
  have e1 : (As.reverse ++ Value.ref a :: st).map (ab_v ad) = (As.map (ab_v ad)).reverse ++ .ref (ad a) :: st.map (ab_v ad) := by
    rw [List.map_append, List.map_reverse]; rfl
  rw [e1]
  refine va_calli (va_runV (b := ad a) (As := As.map (ab_v ad)) (rest := st.map (ab_v ad)) ⟨hx, hb, hml, hown, hts⟩ (M l D ad tc A) ⟨gj_callB hts hY.1 hl hR, hts _ hY.2.1, hts _ hY.2.2⟩ ⟨gj_B.blind, hrec, fun U hU hW => gj_pre hK hA hSt hNw hP hD hS (.ref a :: As) U hU hW⟩ rfl (by rw [List.length_map]; exact hn) hL.1 rfl (lv_room (by rw [List.map_map]; rw [show ((fun v => v.category) ∘ ab_v ad) = (fun v : Value => v.category) from funext (ab_v_cat ad)]; exact hcat)) hd ⟨Nat.zero_le _, Nat.zero_le _⟩) hS (fun q _ h => h) (fun q h => h) (fun r' u t H1 locs1 ht hvm hw hB hz1 hk1 hS1 => ?_)
  obtain ⟨rfl, rfl⟩ := hw
  obtain ⟨hP1, hD1⟩ := hB
  rw [ht] at hP1
  exact k r' u h2 H1 locs1 ls hL hP1 hD1 hS1
theorem gj_callVv (C : gj_C p s m args meth c D ad tc A cc nL ret own) {d dy : Nat} {y : MethodName} {cy : ByteArray} {ny n idx ci a : Nat} {ry : Option FieldType} {As st0 : List Value} {α : Type} {f : ab_W → Option α} {r0 : α} {S : Option ab_W}
    (hp : pc + 3 = pc') (hd : decode cc pc = .ok (.invokevirtual idx, 3)) (hl : Cond.methodLink own idx y ∈ gj_tb) (hY : gj_YC y cy ny ry n ci) (h : S.bind f = some r0) (hM : ∀ w1, S = some w1 → gj_Mv y cy ny ry dy (.ref a :: As) w w1 ∧ ab_is w ci a = true) (hR : dy + 1 ≤ d) (hst : st0 = As.reverse ++ .ref a :: st) (hn : As.length = n) (hcat : (st.map fun v => v.category).sum ≤ 8)
    (k : ∀ w1, f w1 = some r0 → gj_G p l e (gj_R d) s m args below meth c D ad tc A nL Q pc' lv st w1) : gj_G p l e (gj_R d) s m args below meth c D ad tc A nL Q pc lv st0 w := by
  obtain ⟨hx, hb, hml, hown, hts, hr, hlk, hK, hA, hSt, hNw⟩ := C
  subst hp
  subst hst
  obtain ⟨w1, h1, h2⟩ := ab_bd h
  obtain ⟨hY, T, N, hci⟩ := hY
  obtain ⟨M, hi⟩ := hM w1 h1
  intro H locs ls hL hP hD hS
  obtain ⟨fs, hfs⟩ := Option.isSome_iff_exists.mp (show (ab_obj w ci a).isSome = true from hi)
  have hrec := va_recv hK hP hci (ab_x_get (ab_obj_some hfs))
  have e1 : (As.reverse ++ Value.ref a :: st).map (ab_v ad) = (As.map (ab_v ad)).reverse ++ .ref (ad a) :: st.map (ab_v ad) := by
    rw [List.map_append, List.map_reverse]; rfl
  rw [e1]
  refine va_callv (va_runV (b := ad a) (As := As.map (ab_v ad)) (rest := st.map (ab_v ad)) ⟨hx, hb, hml, hown, hts⟩ (M l D ad tc A) ⟨gj_callB hts hY.1 hl hR, hts _ hY.2.1, hts _ hY.2.2⟩ ⟨gj_B.blind, hrec, fun U hU hW => gj_pre hK hA hSt hNw hP hD hS (.ref a :: As) U hU hW⟩ rfl (by rw [List.length_map]; exact hn) hL.1 rfl (lv_room (by rw [List.map_map]; rw [show ((fun v => v.category) ∘ ab_v ad) = (fun v : Value => v.category) from funext (ab_v_cat ad)]; exact hcat)) hd ⟨Nat.zero_le _, Nat.zero_le _⟩) hS (fun q _ h => h) (fun q h => h) (fun u t H1 locs1 ht hvm hw hB hz1 hk1 hS1 => ?_)
  subst hw
  obtain ⟨hP1, hD1⟩ := hB
  rw [ht] at hP1
  exact k u h2 H1 locs1 ls hL hP1 hD1 hS1
theorem gj_callSi (C : gj_C p s m args meth c D ad tc A cc nL ret own) {d dy : Nat} {y : MethodName} {cy : ByteArray} {ny n idx : Nat} {ry : Option FieldType} {As st0 : List Value} {α : Type} {f : Int32 → ab_W → Option α} {r0 : α} {S : Option (Int32 × ab_W)}
    (hp : pc + 3 = pc') (hd : decode cc pc = .ok (.invokestatic idx, 3)) (hl : Cond.methodLink own idx y ∈ gj_tb) (hY : gj_YS y cy ny ry n) (h : ab_b2 S f = some r0) (hM : ∀ r w1, S = some (r, w1) → gj_Mi y cy ny ry dy As w r w1) (hR : dy + 1 ≤ d) (hst : st0 = As.reverse ++ st) (hn : As.length = n) (hcat : (st.map fun v => v.category).sum ≤ 8)
    (k : ∀ r w1, f r w1 = some r0 → gj_G p l e (gj_R d) s m args below meth c D ad tc A nL Q pc' lv (.int r :: st) w1) : gj_G p l e (gj_R d) s m args below meth c D ad tc A nL Q pc lv st0 w := by
  obtain ⟨hx, hb, hml, hown, hts, hr, hlk, hK, hA, hSt, hNw⟩ := C
  subst hp
  subst hst
  obtain ⟨r, w1, h1, h2⟩ := ab_bd2 h
  have M := hM r w1 h1
  intro H locs ls hL hP hD hS
  have e1 : (As.reverse ++ st).map (ab_v ad) = (As.map (ab_v ad)).reverse ++ st.map (ab_v ad) := by
    rw [List.map_append, List.map_reverse]
  rw [e1]
  refine va_calli (va_runS (As := As.map (ab_v ad)) (rest := st.map (ab_v ad)) ⟨hx, hb, hml, hown, hts⟩ (M l D ad tc A) ⟨gj_callB hts hY.1 hl hR, hts _ hY.2⟩ ⟨gj_B.blind, fun U hU hW => gj_pre hK hA hSt hNw hP hD hS As U hU hW⟩ rfl (by rw [List.length_map]; exact hn) hL.1 rfl (lv_room (by rw [List.map_map]; rw [show ((fun v => v.category) ∘ ab_v ad) = (fun v : Value => v.category) from funext (ab_v_cat ad)]; exact hcat)) hd ⟨Nat.zero_le _, Nat.zero_le _⟩) hS (fun q _ h => h) (fun q h => h) (fun r' u t H1 locs1 ht hvm hw hB hz1 hk1 hS1 => ?_)
  obtain ⟨rfl, rfl⟩ := hw
  obtain ⟨hP1, hD1⟩ := hB
  rw [ht] at hP1
  exact k r' u h2 H1 locs1 ls hL hP1 hD1 hS1
theorem gj_callSv (C : gj_C p s m args meth c D ad tc A cc nL ret own) {d dy : Nat} {y : MethodName} {cy : ByteArray} {ny n idx : Nat} {ry : Option FieldType} {As st0 : List Value} {α : Type} {f : ab_W → Option α} {r0 : α} {S : Option ab_W}
    (hp : pc + 3 = pc') (hd : decode cc pc = .ok (.invokestatic idx, 3)) (hl : Cond.methodLink own idx y ∈ gj_tb) (hY : gj_YS y cy ny ry n) (h : S.bind f = some r0) (hM : ∀ w1, S = some w1 → gj_Mv y cy ny ry dy As w w1) (hR : dy + 1 ≤ d) (hst : st0 = As.reverse ++ st) (hn : As.length = n) (hcat : (st.map fun v => v.category).sum ≤ 8)
    (k : ∀ w1, f w1 = some r0 → gj_G p l e (gj_R d) s m args below meth c D ad tc A nL Q pc' lv st w1) : gj_G p l e (gj_R d) s m args below meth c D ad tc A nL Q pc lv st0 w := by
  obtain ⟨hx, hb, hml, hown, hts, hr, hlk, hK, hA, hSt, hNw⟩ := C
  subst hp
  subst hst
  obtain ⟨w1, h1, h2⟩ := ab_bd h
  have M := hM w1 h1
  intro H locs ls hL hP hD hS
  have e1 : (As.reverse ++ st).map (ab_v ad) = (As.map (ab_v ad)).reverse ++ st.map (ab_v ad) := by
    rw [List.map_append, List.map_reverse]
  rw [e1]
  refine va_callv (va_runS (As := As.map (ab_v ad)) (rest := st.map (ab_v ad)) ⟨hx, hb, hml, hown, hts⟩ (M l D ad tc A) ⟨gj_callB hts hY.1 hl hR, hts _ hY.2⟩ ⟨gj_B.blind, fun U hU hW => gj_pre hK hA hSt hNw hP hD hS As U hU hW⟩ rfl (by rw [List.length_map]; exact hn) hL.1 rfl (lv_room (by rw [List.map_map]; rw [show ((fun v => v.category) ∘ ab_v ad) = (fun v : Value => v.category) from funext (ab_v_cat ad)]; exact hcat)) hd ⟨Nat.zero_le _, Nat.zero_le _⟩) hS (fun q _ h => h) (fun q h => h) (fun u t H1 locs1 ht hvm hw hB hz1 hk1 hS1 => ?_)
  subst hw
  obtain ⟨hP1, hD1⟩ := hB
  rw [ht] at hP1
  exact k u h2 H1 locs1 ls hL hP1 hD1 hS1
end GJC
