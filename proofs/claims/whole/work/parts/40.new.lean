def ab_rst (w : ab_W) (t a : Nat) (i : Int32) (ci x : Nat) : Option ab_W := (ab_refs w t a).bind fun q => (ab_obj w ci x).bind fun _ => if i < 0 ∨ q.1 ≤ i.toNatClampNeg then none else some (w.set a (.inl (t, q.1, .inr (va_up q.2 i.toNatClampNeg (some x)))))
theorem ab_rst_some {w w1 : ab_W} {t a ci x : Nat} {i : Int32} (h : ab_rst w t a i ci x = some w1) : ∃ n g fs, w[a]? = some (.inl (t, n, .inr g)) ∧ vp_in i n ∧ w[x]? = some (.inr (ci, fs)) ∧ w1 = w.set a (.inl (t, n, .inr (va_up g i.toNatClampNeg (some x)))) := by
  obtain ⟨⟨n, g⟩, h1, h2⟩ := ab_bd h
  obtain ⟨fs, h3, h4⟩ := ab_bd h2
  split at h4
  · cases h4
  · next h5 => cases h4; exact ⟨n, g, fs, ab_refs_some h1, h5, ab_obj_some h3, rfl⟩
/-! ===== code that makes cells: the address of the k-th cell is base + k ===== -/
def gn_O (U : State) : Prop := va_AO RX3 U ∧ va_AO RX2 U ∧ va_AO RX5 U
theorem gn_O.moved {u U : State} (hvm : u.vm.Alike U.vm) (h : gn_O u) : gn_O U := ⟨h.1.moved hvm, h.2.1.moved hvm, h.2.2.moved hvm⟩
def gn_R (d mc ms : Nat) : Room := { frames := d, cells := mc, slots := ms, locals := 64 * d }
def gn_B (D : va_G) (ad : Nat → Nat) (tc : Nat → ClassId) (A : Nat → Prop) (base : Nat) (w : ab_W) (U : State) : Prop := gj_B D ad tc A w U ∧ U.heap.size = base + w.length ∧ gn_O U
def gn_M (y : MethodName) (cc : ByteArray) (nL d lim mc ms : Nat) (av : List Value) (w w1 : ab_W) : Prop :=
  ∀ (l : Launch) (D : va_G) (ad : Nat → Nat) (tc : Nat → ClassId) (A : Nat → Prop) (base : Nat), (∀ k, k < 1000 → ad k = base + k) → w.length ≤ lim → Met l y (gj_ws y cc nL none) (gn_R d mc ms) (va_Pc (av.map (ab_v ad)) (gn_B D ad tc A base w)) (va_Qv (fun w' => w' = w1 ∧ w1.length = w.length + mc) (gj_E D ad tc A) A) mc ms A
def gn_C (p : Program) (s : State) (m : MethodId) (args : Array Value) (meth : Method) (c : Code) (D : va_G) (ad : Nat → Nat) (tc : Nat → ClassId) (A : Nat → Prop) (cc : ByteArray) (nL : Nat) (ret : Option FieldType) (own : String) (base n0 lim : Nat) : Prop :=
  gj_C p s m args meth c D ad tc A cc nL ret own ∧ (∀ k, k < 1000 → ad k = base + k) ∧ s.heap.size = base + n0 ∧ (0 < n0 ∧ n0 ≤ lim ∧ lim ≤ 800) ∧ gn_O s ∧ meth.name = "<init>"
def gn_G (p : Program) (l : Launch) (e : Env) (R : Room) (s : State) (m : MethodId) (args : Array Value) (below : List Frame) (meth : Method) (c : Code) (D : va_G) (ad : Nat → Nat) (tc : Nat → ClassId) (A : Nat → Prop) (nL n0 cells slots : Nat) (Q : State → Prop) (pc : Nat) (lv : List (Option Value)) (st : List Value) (w : ab_W) : Prop :=
  ∀ (H : Heap) (locs : List Loc) (ls : Array Slot), gj_L ad nL lv ls → va_P D vwCl (ab_x ad tc w) H → va_D A (ab_x ad tc w) → va_S A s.heap H locs → w.length = n0 + cells → W p l e R s m args below meth c H locs cells slots Q (F0 m pc ls (st.map (ab_v ad)))
def gn_Q (D : va_G) (ad : Nat → Nat) (tc : Nat → ClassId) (A : Nat → Prop) (below : List Frame) (args : Array Value) (s : State) (n0 mc ms : Nat) (w1 : ab_W) : State → Prop := MQ below (va_Qv (fun w' => w' = w1 ∧ w1.length = n0 + mc) (gj_E D ad tc A) A) args s mc ms A
theorem gn_M_of {y : MethodName} {cc : ByteArray} {nL d lim mc ms : Nat} {av : List Value} {w w1 : ab_W} (own : String) (lv0 : List (Option Value))
    (hpos : 0 < w.length) (hlim : lim ≤ 800) (hy : plainName y.cls = true) (hc : y.cls = own) (hnm : y.name = "<init>") (hn : (ab_lw av).length ≤ nL) (hlv : ab_lv av nL = lv0)
    (body : ∀ (p : Program) (l : Launch) (e : Env) (s : State) (m : MethodId) (args : Array Value) (below : List Frame) (meth : Method) (c : Code) (D : va_G) (ad : Nat → Nat) (tc : Nat → ClassId) (A : Nat → Prop) (base n0 : Nat), w.length = n0 → gn_C p s m args meth c D ad tc A cc nL none own base n0 lim → gn_G p l e (gn_R d mc ms) s m args below meth c D ad tc A nL n0 0 0 (gn_Q D ad tc A below args s n0 mc ms w1) 0 lv0 [] w) :
    gn_M y cc nL d lim mc ms av w w1 := by
  intro l D ad tc A base had hw5
  refine Met.ofW (cc := cc) (maxL := nL) (ret := none) hy rfl ?_
  intro p e s m args below meth c s₁ B hml hv
  obtain ⟨rfl, ⟨hP, hK, hD, hA, hS, hNw⟩, hsz, hO⟩ := hv
  have hts0 := atoms_spec (ws := gj_ws y cc nL none) B.pre
  have hts : ∀ w ∈ gj_tb, w.before (av.map (ab_v ad)).toArray s = true := fun w h => hts0 w (List.mem_cons_of_mem _ h)
  have hown : s.vm.findClass own = some m.cls := by
    rw [← hc]
    exact findClass_of_methodNamed B.named
  have hin : meth.name = "<init>" := (name_of_methodNamed B.named B.method).1.trans hnm
  have hl := lv_entry (av.map (ab_v ad)) (n := nL) (by rw [ab_sl_len]; exact hn)
  rw [lg_entry_eq]
  generalize (lg_sl (av.map (ab_v ad)) ++ List.replicate (nL - (lg_sl (av.map (ab_v ad))).length) Slot.unset).toArray = ls at hl ⊢
  have hL : gj_L ad nL lv0 ls := ⟨hl.1, hl.2.1, fun i v h => by subst hlv; exact hl.2.2 (i, ab_v ad v) (ab_lv_args ad av nL i v h)⟩
  exact body p l e s m _ below meth c D ad tc A base w.length rfl ⟨⟨B.exec, B.bytes, hml, hown, hts, B.returns, B.notSynchronized, hK, hA, hS, hNw⟩, had, hsz, ⟨hpos, hw5, hlim⟩, hO, hin⟩ s.heap [] ls hL hP hD va_S.rf rfl
theorem gn_size {p : Program} {l : Launch} {e : Env} {R : Room} {s : State} {m : MethodId} {args : Array Value} {below : List Frame} {meth : Method} {c : Code} {H : Heap} {locs : List Loc} {cells slots : Nat} {Q : State → Prop} {g : JFrame} (k : H.size ≤ s.heap.size + cells → W p l e R s m args below meth c H locs cells slots Q g) : W p l e R s m args below meth c H locs cells slots Q g := by
  intro T hT X
  exact k (by rw [← hT]; exact X.same.2.2.1) T hT X
/-- the heap is just as long as the world says -/
theorem gn_len {D : va_G} {ad : Nat → Nat} {tc : Nat → ClassId} {w : ab_W} {H : Heap} {base n : Nat} (had : ∀ k, k < 1000 → ad k = base + k) (hP : va_P D vwCl (ab_x ad tc w) H) (hw : w.length = n) (hn : n < 1000) (hpos : 0 < n) (hup : H.size ≤ base + n) : H.size = base + n := by
  have hl : n - 1 < w.length := by omega
  have h1 := (hP (n - 1) _ (ab_x_get (List.getElem?_eq_getElem hl))).lt
  simp only [had (n - 1) (by omega)] at h1
  omega
theorem gn_x_push {ad : Nat → Nat} {tc : Nat → ClassId} {w : ab_W} {e : ab_E} : ab_x ad tc (w ++ [e]) = ab_x ad tc w ++ [(ad w.length, ab_c ad tc e)] := by
  simp [ab_x, List.mapIdx_append]
theorem gn_push {D : va_G} {ad : Nat → Nat} {tc : Nat → ClassId} {A : Nat → Prop} {w : ab_W} {e : ab_E} {H H1 H0 : Heap} {locs : List Loc} (hP : va_P D vwCl (ab_x ad tc w) H) (hD : va_D A (ab_x ad tc w)) (hS : va_S A H0 H locs) (hA : ∀ q : Nat, H0.size ≤ q → A q) (ha : ad w.length = H.size) (z1 : H1.size = H.size + 1) (o1 : ∀ q : Nat, q < H.size → H1[q]? = H[q]?) (he : va_at D vwCl (H.size, ab_c ad tc e) H1) :
    va_P D vwCl (ab_x ad tc (w ++ [e])) H1 ∧ va_D A (ab_x ad tc (w ++ [e])) ∧ va_S A H0 H1 locs := by
  have hk : ∀ (k : Nat) (x : Nat × va_E), (ab_x ad tc w)[k]? = some x → H1[x.1]? = H[x.1]? := fun k x hx => o1 x.1 ((hP k x hx).lt)
  rw [gn_x_push, ha]
  refine ⟨(hP.kept hk).app (fun k x hx => ?_), hD.push hP rfl (hA _ hS.1), ⟨Nat.le_trans hS.1 (by omega), fun x h1 h2 => (o1 x (Nat.lt_of_lt_of_le h1 hS.1)).trans (hS.2.1 x h1 h2), hS.2.2⟩⟩
  have hz : k < 1 := (List.getElem?_eq_some_iff.mp hx).1
  rw [show k = 0 by omega] at hx
  cases hx
  exact he
section GN
variable {p : Program} {l : Launch} {e : Env} {R : Room} {s : State} {m : MethodId} {args : Array Value} {below : List Frame} {meth : Method} {c : Code} {D : va_G} {ad : Nat → Nat} {tc : Nat → ClassId} {A : Nat → Prop} {nL n0 cells slots base lim : Nat} {Q : State → Prop} {pc pc' : Nat} {lv : List (Option Value)} {st : List Value} {w : ab_W} {cc : ByteArray} {ret : Option FieldType} {own : String}
theorem gn_iconst (C : gn_C p s m args meth c D ad tc A cc nL ret own base n0 lim) {n : Int} {v : Int32} (hp : pc + 1 = pc') (hd : decode cc pc = .ok (.iconst n, 1)) (hv : Int32.ofInt n = v) (k : gn_G p l e R s m args below meth c D ad tc A nL n0 cells slots Q pc' lv (.int v :: st) w) : gn_G p l e R s m args below meth c D ad tc A nL n0 cells slots Q pc lv st w := by
  obtain ⟨⟨hx, hb, hml, hown, hts, hr, hlk, hK, hA, hSt, hNw⟩, had, hsz, hn0, hO, hin⟩ := C
  subst hp
  intro H locs ls hL hP hD hS hz
  exact lv_iconst hx hb hd hv (k H locs ls hL hP hD hS hz)
theorem gn_bipush (C : gn_C p s m args meth c D ad tc A cc nL ret own base n0 lim) {n : Int} {v : Int32} (hp : pc + 2 = pc') (hd : decode cc pc = .ok (.bipush n, 2)) (hv : (Int8.ofInt n).toInt32 = v) (k : gn_G p l e R s m args below meth c D ad tc A nL n0 cells slots Q pc' lv (.int v :: st) w) : gn_G p l e R s m args below meth c D ad tc A nL n0 cells slots Q pc lv st w := by
  obtain ⟨⟨hx, hb, hml, hown, hts, hr, hlk, hK, hA, hSt, hNw⟩, had, hsz, hn0, hO, hin⟩ := C
  subst hp
  intro H locs ls hL hP hD hS hz
  exact lv_bipush hx hb hd hv (k H locs ls hL hP hD hS hz)
theorem gn_sipush (C : gn_C p s m args meth c D ad tc A cc nL ret own base n0 lim) {n : Int} {v : Int32} (hp : pc + 3 = pc') (hd : decode cc pc = .ok (.sipush n, 3)) (hv : (Int16.ofInt n).toInt32 = v) (k : gn_G p l e R s m args below meth c D ad tc A nL n0 cells slots Q pc' lv (.int v :: st) w) : gn_G p l e R s m args below meth c D ad tc A nL n0 cells slots Q pc lv st w := by
  obtain ⟨⟨hx, hb, hml, hown, hts, hr, hlk, hK, hA, hSt, hNw⟩, had, hsz, hn0, hO, hin⟩ := C
  subst hp
  intro H locs ls hL hP hD hS hz
  exact lv_sipush hx hb hd hv (k H locs ls hL hP hD hS hz)
theorem gn_iload_n (C : gn_C p s m args meth c D ad tc A cc nL ret own base n0 lim) {k0 : Fin 4} {i : Nat} {x : Int32} (hp : pc + 1 = pc') (hd : decode cc pc = .ok (.iload_n k0, 1)) (hi : (k0 : Nat) = i) (hl : lv[i]? = some (some (.int x))) (k : gn_G p l e R s m args below meth c D ad tc A nL n0 cells slots Q pc' lv (.int x :: st) w) : gn_G p l e R s m args below meth c D ad tc A nL n0 cells slots Q pc lv st w := by
  obtain ⟨⟨hx, hb, hml, hown, hts, hr, hlk, hK, hA, hSt, hNw⟩, had, hsz, hn0, hO, hin⟩ := C
  subst hp
  intro H locs ls hL hP hD hS hz
  exact lv_iload_n hx hb hd hi (hL.2.2 i _ hl) (k H locs ls hL hP hD hS hz)
theorem gn_aload_n (C : gn_C p s m args meth c D ad tc A cc nL ret own base n0 lim) {k0 : Fin 4} {i : Nat} {x : Nat} (hp : pc + 1 = pc') (hd : decode cc pc = .ok (.aload_n k0, 1)) (hi : (k0 : Nat) = i) (hl : lv[i]? = some (some (.ref x))) (k : gn_G p l e R s m args below meth c D ad tc A nL n0 cells slots Q pc' lv (.ref x :: st) w) : gn_G p l e R s m args below meth c D ad tc A nL n0 cells slots Q pc lv st w := by
  obtain ⟨⟨hx, hb, hml, hown, hts, hr, hlk, hK, hA, hSt, hNw⟩, had, hsz, hn0, hO, hin⟩ := C
  subst hp
  intro H locs ls hL hP hD hS hz
  exact lv_aload_n hx hb hd hi (hL.2.2 i _ hl) (k H locs ls hL hP hD hS hz)
theorem gn_dup (C : gn_C p s m args meth c D ad tc A cc nL ret own base n0 lim) {v : Value} (hp : pc + 1 = pc') (hd : decode cc pc = .ok (.dup, 1)) (hc : v.category = 1) (k : gn_G p l e R s m args below meth c D ad tc A nL n0 cells slots Q pc' lv (v :: v :: st) w) : gn_G p l e R s m args below meth c D ad tc A nL n0 cells slots Q pc lv (v :: st) w := by
  obtain ⟨⟨hx, hb, hml, hown, hts, hr, hlk, hK, hA, hSt, hNw⟩, had, hsz, hn0, hO, hin⟩ := C
  subst hp
  intro H locs ls hL hP hD hS hz
  exact lv_dup hx hb hd (by rw [ab_v_cat]; exact hc) (k H locs ls hL hP hD hS hz)
theorem gn_istore_n (C : gn_C p s m args meth c D ad tc A cc nL ret own base n0 lim) {k0 : Fin 4} {i : Nat} {x : Int32} {lv' : List (Option Value)} (hp : pc + 1 = pc') (hd : decode cc pc = .ok (.istore_n k0, 1)) (hi : (k0 : Nat) = i) (hn : i < nL) (hok : gj_ok lv i = true) (hl : lv.set i (some (.int x)) = lv') (k : gn_G p l e R s m args below meth c D ad tc A nL n0 cells slots Q pc' lv' st w) : gn_G p l e R s m args below meth c D ad tc A nL n0 cells slots Q pc lv (.int x :: st) w := by
  obtain ⟨⟨hx, hb, hml, hown, hts, hr, hlk, hK, hA, hSt, hNw⟩, had, hsz, hn0, hO, hin⟩ := C
  subst hp
  subst hl
  intro H locs ls hL hP hD hS hz
  exact lv_istore_n hx hb hd hi (gj_Lh hL) hn rfl (fun ls' h' => k H locs ls' (gj_Ls hL hok h') hP hD hS hz)
theorem gn_iinc (C : gn_C p s m args meth c D ad tc A cc nL ret own base n0 lim) {i : Nat} {n : Int} {x v : Int32} {lv' : List (Option Value)} (hp : pc + 3 = pc') (hd : decode cc pc = .ok (.iinc i n, 3)) (hx0 : lv[i]? = some (some (.int x))) (hv : x + Int32.ofInt n = v) (hn : i < nL) (hok : gj_ok lv i = true) (hl : lv.set i (some (.int v)) = lv') (k : gn_G p l e R s m args below meth c D ad tc A nL n0 cells slots Q pc' lv' st w) : gn_G p l e R s m args below meth c D ad tc A nL n0 cells slots Q pc lv st w := by
  obtain ⟨⟨hx, hb, hml, hown, hts, hr, hlk, hK, hA, hSt, hNw⟩, had, hsz, hn0, hO, hin⟩ := C
  subst hp
  subst hl
  intro H locs ls hL hP hD hS hz
  obtain ⟨k1, hk1⟩ := gj_Lk ad hx0
  exact lv_iinc hx hb hd (gj_Lh hL) hk1 hv hn rfl (fun ls' h' => k H locs ls' (gj_Ls hL hok h') hP hD hS hz)
theorem gn_ge_F (C : gn_C p s m args meth c D ad tc A cc nL ret own base n0 lim) {x y : Int32} {off : Int} {tgt : Nat} (hp : pc + 3 = pc') (hd : decode cc pc = .ok (.if_icmp .ge off, 3)) (ht : (pc : Int) + off = (tgt : Int)) (hc : ¬ y ≤ x) (k : gn_G p l e R s m args below meth c D ad tc A nL n0 cells slots Q pc' lv st w) : gn_G p l e R s m args below meth c D ad tc A nL n0 cells slots Q pc lv (.int y :: .int x :: st) w := by
  obtain ⟨⟨hx, hb, hml, hown, hts, hr, hlk, hK, hA, hSt, hNw⟩, had, hsz, hn0, hO, hin⟩ := C
  subst hp
  intro H locs ls hL hP hD hS hz
  exact lv_icmp_ge hx hb hd ht (fun h1 => absurd h1 hc) (fun h1 => k H locs ls hL hP hD hS hz)
theorem gn_ge_T (C : gn_C p s m args meth c D ad tc A cc nL ret own base n0 lim) {x y : Int32} {off : Int} {tgt : Nat} (hd : decode cc pc = .ok (.if_icmp .ge off, 3)) (ht : (pc : Int) + off = (tgt : Int)) (hc : y ≤ x) (k : gn_G p l e R s m args below meth c D ad tc A nL n0 cells slots Q tgt lv st w) : gn_G p l e R s m args below meth c D ad tc A nL n0 cells slots Q pc lv (.int y :: .int x :: st) w := by
  obtain ⟨⟨hx, hb, hml, hown, hts, hr, hlk, hK, hA, hSt, hNw⟩, had, hsz, hn0, hO, hin⟩ := C
  intro H locs ls hL hP hD hS hz
  exact lv_icmp_ge hx hb hd ht (fun h1 => k H locs ls hL hP hD hS hz) (fun h1 => absurd hc h1)
theorem gn_ge (C : gn_C p s m args meth c D ad tc A cc nL ret own base n0 lim) {x y : Int32} {off : Int} {tgt : Nat} {α : Type} {a b : Option α} {r : α} (hp : pc + 3 = pc') (hd : decode cc pc = .ok (.if_icmp .ge off, 3)) (ht : (pc : Int) + off = (tgt : Int)) (h : (if x < y then a else b) = some r) (ka : a = some r → gn_G p l e R s m args below meth c D ad tc A nL n0 cells slots Q pc' lv st w) (kb : b = some r → gn_G p l e R s m args below meth c D ad tc A nL n0 cells slots Q tgt lv st w) : gn_G p l e R s m args below meth c D ad tc A nL n0 cells slots Q pc lv (.int y :: .int x :: st) w := by
  obtain ⟨⟨hx, hb, hml, hown, hts, hr, hlk, hK, hA, hSt, hNw⟩, had, hsz, hn0, hO, hin⟩ := C
  subst hp
  intro H locs ls hL hP hD hS hz
  exact lv_icmp_ge hx hb hd ht (fun h1 => kb (by rw [if_neg (Int32.not_lt.mpr h1)] at h; exact h) H locs ls hL hP hD hS hz) (fun h1 => ka (by rw [if_pos (Int32.not_le.mp h1)] at h; exact h) H locs ls hL hP hD hS hz)
theorem gn_goto (C : gn_C p s m args meth c D ad tc A cc nL ret own base n0 lim) {off : Int} {tgt : Nat} (hd : decode cc pc = .ok (.goto off, 3)) (ht : (pc : Int) + off = (tgt : Int)) (k : gn_G p l e R s m args below meth c D ad tc A nL n0 cells slots Q tgt lv st w) : gn_G p l e R s m args below meth c D ad tc A nL n0 cells slots Q pc lv st w := by
  obtain ⟨⟨hx, hb, hml, hown, hts, hr, hlk, hK, hA, hSt, hNw⟩, had, hsz, hn0, hO, hin⟩ := C
  intro H locs ls hL hP hD hS hz
  exact lv_goto hx hb hd ht (k H locs ls hL hP hD hS hz)
theorem gn_getR (C : gn_C p s m args meth c D ad tc A cc nL ret own base n0 lim) {C0 : String} {T : u_T} {N ci idx i a : Nat} {α : Type} {f : Nat → Option α} {r : α} (hp : pc + 3 = pc') (hd : decode cc pc = .ok (.getfield idx, 3)) (hF : gj_F own idx ci i C0 T N) (h : (ab_getR w ci a i).bind f = some r) (k : ∀ v, f v = some r → gn_G p l e R s m args below meth c D ad tc A nL n0 cells slots Q pc' lv (.ref v :: st) w) : gn_G p l e R s m args below meth c D ad tc A nL n0 cells slots Q pc lv (.ref a :: st) w := by
  obtain ⟨⟨hx, hb, hml, hown, hts, hr, hlk, hK, hA, hSt, hNw⟩, had, hsz, hn0, hO, hin⟩ := C
  subst hp
  obtain ⟨v, h1, h2⟩ := ab_bd h
  have k := k v h2
  obtain ⟨hc, hk, hin0, hf, ho⟩ := hF
  obtain ⟨fs, h3, h4⟩ := ab_getR_some h1
  intro H locs ls hL hP hD hS hz
  exact va_get hx hb hts hin0 hown hK hP a (ab_x_get h3) hc i hk (hts _ hf) (by rw [ho]; exact fun _ h9 => h9) (by show (fs.map (ab_v ad))[i]? = _; rw [List.getElem?_map, h4]; rfl) hd (k H locs ls hL hP hD hS hz)
theorem gn_putI (C : gn_C p s m args meth c D ad tc A cc nL ret own base n0 lim) {C0 : String} {T : u_T} {N ci idx i a : Nat} {x : Int32} {ty : FieldType} {α : Type} {f : ab_W → Option α} {r : α} (hp : pc + 3 = pc') (hd : decode cc pc = .ok (.putfield idx, 3)) (hF : gj_F own idx ci i C0 T N) (hFP : gj_FP T i N) (htt : parseFieldDescriptor (T i).2.2.1 = some .int) (h : (ab_putI w ci a i x).bind f = some r) (k : ∀ w1, f w1 = some r → gn_G p l e R s m args below meth c D ad tc A nL n0 cells slots Q pc' lv st w1) : gn_G p l e R s m args below meth c D ad tc A nL n0 cells slots Q pc lv ((.int x) :: .ref a :: st) w := by
  obtain ⟨⟨hx, hb, hml, hown, hts, hr, hlk, hK, hA, hSt, hNw⟩, had, hsz, hn0, hO, hin⟩ := C
  subst hp
  obtain ⟨hc, hk, hin0, hf, ho⟩ := hF
  obtain ⟨⟨tys, hty⟩, hnm, hfin⟩ := hFP
  obtain ⟨w1, h1, h2⟩ := ab_bd h
  have k := k w1 h2
  unfold ab_putI at h1
  obtain ⟨fs, h3, h4, h5⟩ := ab_put_some h1
  subst h5
  intro H locs ls hL hP hD hS hz
  exact va_put hx hb hts hin0 tys hty hnm hown hK hP hD hS a (ab_x_get h3) hc i hk (hts _ hf) (by rw [ho]; exact fun _ h9 => h9) hfin htt rfl rfl (by rw [List.length_map]; exact h4) hd (fun H1 locs1 hP1 hD1 hS1 => k H1 locs1 ls hL (by rw [← ab_x_set]; have e : ab_c ad tc (.inr (ci, fs.set i (.int x))) = .inr (ci, (fs.map (ab_v ad)).set i (ab_v ad (.int x))) := (by simp only [ab_c, List.map_set]); rw [e]; exact hP1) (by rw [← ab_x_set]; have e : ab_c ad tc (.inr (ci, fs.set i (.int x))) = .inr (ci, (fs.map (ab_v ad)).set i (ab_v ad (.int x))) := (by simp only [ab_c, List.map_set]); rw [e]; exact hD1) hS1 (by rw [List.length_set]; exact hz))
theorem gn_putZ (C : gn_C p s m args meth c D ad tc A cc nL ret own base n0 lim) {C0 : String} {T : u_T} {N ci idx i a : Nat} {x : Int32} {ty : FieldType} {α : Type} {f : ab_W → Option α} {r : α} (hp : pc + 3 = pc') (hd : decode cc pc = .ok (.putfield idx, 3)) (hF : gj_F own idx ci i C0 T N) (hFP : gj_FP T i N) (htt : parseFieldDescriptor (T i).2.2.1 = some .boolean) (h : (ab_putZ w ci a i x).bind f = some r) (k : ∀ w1, f w1 = some r → gn_G p l e R s m args below meth c D ad tc A nL n0 cells slots Q pc' lv st w1) : gn_G p l e R s m args below meth c D ad tc A nL n0 cells slots Q pc lv ((.int x) :: .ref a :: st) w := by
  obtain ⟨⟨hx, hb, hml, hown, hts, hr, hlk, hK, hA, hSt, hNw⟩, had, hsz, hn0, hO, hin⟩ := C
  subst hp
  obtain ⟨hc, hk, hin0, hf, ho⟩ := hF
  obtain ⟨⟨tys, hty⟩, hnm, hfin⟩ := hFP
  obtain ⟨w1, h1, h2⟩ := ab_bd h
  have k := k w1 h2
  unfold ab_putZ at h1
  split at h1
  case isFalse => cases h1
  rename_i hz0
  obtain ⟨fs, h3, h4, h5⟩ := ab_put_some h1
  subst h5
  intro H locs ls hL hP hD hS hz
  exact va_put hx hb hts hin0 tys hty hnm hown hK hP hD hS a (ab_x_get h3) hc i hk (hts _ hf) (by rw [ho]; exact fun _ h9 => h9) hfin htt (by show Value.int (x &&& 1) = _; rw [gj_nZ hz0]; rfl) (gj_fitZ hz0) (by rw [List.length_map]; exact h4) hd (fun H1 locs1 hP1 hD1 hS1 => k H1 locs1 ls hL (by rw [← ab_x_set]; have e : ab_c ad tc (.inr (ci, fs.set i (.int x))) = .inr (ci, (fs.map (ab_v ad)).set i (ab_v ad (.int x))) := (by simp only [ab_c, List.map_set]); rw [e]; exact hP1) (by rw [← ab_x_set]; have e : ab_c ad tc (.inr (ci, fs.set i (.int x))) = .inr (ci, (fs.map (ab_v ad)).set i (ab_v ad (.int x))) := (by simp only [ab_c, List.map_set]); rw [e]; exact hD1) hS1 (by rw [List.length_set]; exact hz))
theorem gn_putR (C : gn_C p s m args meth c D ad tc A cc nL ret own base n0 lim) {C0 : String} {T : u_T} {N ci idx i a : Nat} {x : Nat} {ty : FieldType} {α : Type} {f : ab_W → Option α} {r : α} (hp : pc + 3 = pc') (hd : decode cc pc = .ok (.putfield idx, 3)) (hF : gj_F own idx ci i C0 T N) (hFP : gj_FP T i N) (hft : ∀ z, fits ty (.ref z) = true) (htt : parseFieldDescriptor (T i).2.2.1 = some ty) (h : (ab_putR w ci a i x).bind f = some r) (k : ∀ w1, f w1 = some r → gn_G p l e R s m args below meth c D ad tc A nL n0 cells slots Q pc' lv st w1) : gn_G p l e R s m args below meth c D ad tc A nL n0 cells slots Q pc lv ((.ref x) :: .ref a :: st) w := by
  obtain ⟨⟨hx, hb, hml, hown, hts, hr, hlk, hK, hA, hSt, hNw⟩, had, hsz, hn0, hO, hin⟩ := C
  subst hp
  obtain ⟨hc, hk, hin0, hf, ho⟩ := hF
  obtain ⟨⟨tys, hty⟩, hnm, hfin⟩ := hFP
  obtain ⟨w1, h1, h2⟩ := ab_bd h
  have k := k w1 h2
  unfold ab_putR at h1
  obtain ⟨fs, h3, h4, h5⟩ := ab_put_some h1
  subst h5
  intro H locs ls hL hP hD hS hz
  exact va_put hx hb hts hin0 tys hty hnm hown hK hP hD hS a (ab_x_get h3) hc i hk (hts _ hf) (by rw [ho]; exact fun _ h9 => h9) hfin htt (by cases ty <;> rfl) (hft (ad x)) (by rw [List.length_map]; exact h4) hd (fun H1 locs1 hP1 hD1 hS1 => k H1 locs1 ls hL (by rw [← ab_x_set]; have e : ab_c ad tc (.inr (ci, fs.set i (.ref x))) = .inr (ci, (fs.map (ab_v ad)).set i (ab_v ad (.ref x))) := (by simp only [ab_c, List.map_set]); rw [e]; exact hP1) (by rw [← ab_x_set]; have e : ab_c ad tc (.inr (ci, fs.set i (.ref x))) = .inr (ci, (fs.map (ab_v ad)).set i (ab_v ad (.ref x))) := (by simp only [ab_c, List.map_set]); rw [e]; exact hD1) hS1 (by rw [List.length_set]; exact hz))
theorem gn_putF (C : gn_C p s m args meth c D ad tc A cc nL ret own base n0 lim) {C0 : String} {T : u_T} {N ci idx i a : Nat} {x : Nat} {ty : FieldType} {α : Type} {f : ab_W → Option α} {r : α} (hp : pc + 3 = pc') (hd : decode cc pc = .ok (.putfield idx, 3)) (hF : gj_F own idx ci i C0 T N) (hFP : (∃ tys : Nat → FieldType, ∀ k, k < N → parseFieldDescriptor (T k).2.2.1 = some (tys k)) ∧ (∀ a, a < N → ∀ b, b < N → a ≠ b → (T a).2.1 ≠ (T b).2.1) ∧ (T i).2.2.2 = true) (hoc : C0 = own) (hft : ∀ z, fits ty (.ref z) = true) (htt : parseFieldDescriptor (T i).2.2.1 = some ty) (h : (ab_putR w ci a i x).bind f = some r) (k : ∀ w1, f w1 = some r → gn_G p l e R s m args below meth c D ad tc A nL n0 cells slots Q pc' lv st w1) : gn_G p l e R s m args below meth c D ad tc A nL n0 cells slots Q pc lv ((.ref x) :: .ref a :: st) w := by
  obtain ⟨⟨hx, hb, hml, hown, hts, hr, hlk, hK, hA, hSt, hNw⟩, had, hsz, hn0, hO, hin⟩ := C
  subst hp
  obtain ⟨hc, hk, hin0, hf, ho⟩ := hF
  obtain ⟨⟨tys, hty⟩, hnm, hfin⟩ := hFP
  obtain ⟨w1, h1, h2⟩ := ab_bd h
  have k := k w1 h2
  unfold ab_putR at h1
  obtain ⟨fs, h3, h4, h5⟩ := ab_put_some h1
  subst h5
  intro H locs ls hL hP hD hS hz
  exact va_putF hx hb hts hin0 tys hty hnm hown hK hP hD hS a (ab_x_get h3) hc i hk (hts _ hf) (by rw [ho]; exact fun _ h9 => h9) hfin hin (ho.trans hoc) htt (by cases ty <;> rfl) (hft (ad x)) (by rw [List.length_map]; exact h4) hd (fun H1 locs1 hP1 hD1 hS1 => k H1 locs1 ls hL (by rw [← ab_x_set]; have e : ab_c ad tc (.inr (ci, fs.set i (.ref x))) = .inr (ci, (fs.map (ab_v ad)).set i (ab_v ad (.ref x))) := (by simp only [ab_c, List.map_set]); rw [e]; exact hP1) (by rw [← ab_x_set]; have e : ab_c ad tc (.inr (ci, fs.set i (.ref x))) = .inr (ci, (fs.map (ab_v ad)).set i (ab_v ad (.ref x))) := (by simp only [ab_c, List.map_set]); rw [e]; exact hD1) hS1 (by rw [List.length_set]; exact hz))
theorem gn_iast (C : gn_C p s m args meth c D ad tc A cc nL ret own base n0 lim) {i x : Int32} {a : Nat} {α : Type} {f : ab_W → Option α} {r : α} (hp : pc + 1 = pc') (hd : decode cc pc = .ok (.iastore, 1)) (h : (ab_ast w a i x).bind f = some r) (k : ∀ w1, f w1 = some r → gn_G p l e R s m args below meth c D ad tc A nL n0 cells slots Q pc' lv st w1) : gn_G p l e R s m args below meth c D ad tc A nL n0 cells slots Q pc lv (.int x :: .int i :: .ref a :: st) w := by
  obtain ⟨⟨hx, hb, hml, hown, hts, hr, hlk, hK, hA, hSt, hNw⟩, had, hsz, hn0, hO, hin⟩ := C
  subst hp
  obtain ⟨w1, h1, h2⟩ := ab_bd h
  have k := k w1 h2
  obtain ⟨n, g, h3, h4, rfl⟩ := ab_ast_some h1
  intro H locs ls hL hP hD hS hz
  exact va_iast hx hb hK hP hD hS a 0 (ab_x_get h3) rfl h4 hd (fun H1 locs1 hP1 hD1 hS1 => k H1 locs1 ls hL (by rw [← ab_x_set]; exact hP1) (by rw [← ab_x_set]; exact hD1) hS1 (by rw [List.length_set]; exact hz))
theorem gn_aast (C : gn_C p s m args meth c D ad tc A cc nL ret own base n0 lim) {i : Int32} {t a x ci : Nat} {C0 : String} {T : u_T} {N : Nat} {α : Type} {f : ab_W → Option α} {r : α} (hp : pc + 1 = pc') (hd : decode cc pc = .ok (.aastore, 1)) (ht : (ab_t tc)[t]? = some (tc t, .object C0)) (hc : vwCl[ci]? = some (C0, T, N)) (h : (ab_rst w t a i ci x).bind f = some r) (k : ∀ w1, f w1 = some r → gn_G p l e R s m args below meth c D ad tc A nL n0 cells slots Q pc' lv st w1) : gn_G p l e R s m args below meth c D ad tc A nL n0 cells slots Q pc lv (.ref x :: .int i :: .ref a :: st) w := by
  obtain ⟨⟨hx, hb, hml, hown, hts, hr, hlk, hK, hA, hSt, hNw⟩, had, hsz, hn0, hO, hin⟩ := C
  subst hp
  obtain ⟨w1, h1, h2⟩ := ab_bd h
  have k := k w1 h2
  obtain ⟨n, g, fs, h3, h4, h5, rfl⟩ := ab_rst_some h1
  intro H locs ls hL hP hD hS hz
  have e9 : ab_c ad tc (.inl (t, n, .inr (va_up g i.toNatClampNeg (some x)))) = .inl (tc t, n, .inr (.inr (.inr (.inr (va_up (fun j => (g j).map ad) i.toNatClampNeg (some (ad x))))))) := by
    show Sum.inl _ = Sum.inl _
    congr 7
    funext j
    by_cases hj : j = i.toNatClampNeg <;> simp [va_up, hj]
  exact va_astq hx hb hK hP hD hS a t x ci (r := (C0, T, N)) (ab_x_get h3) ht (ab_x_get h5) hc h4 hd (fun H1 locs1 hP1 hD1 hS1 => k H1 locs1 ls hL (by rw [← ab_x_set, e9]; exact hP1) (by rw [← ab_x_set, e9]; exact hD1) hS1 (by rw [List.length_set]; exact hz))
theorem gn_objInit (C : gn_C p s m args meth c D ad tc A cc nL ret own base n0 lim) {a idx : Nat} (hR : 1 ≤ R.frames ∧ 64 ≤ R.locals) (hp : pc + 3 = pc') (hd : decode cc pc = .ok (.invokespecial idx, 3)) (hl : Cond.methodLink own idx Lib.objectInit ∈ gj_tb) (hw : Cond.instanceMethod Lib.objectInit ∈ gj_tb ∧ Cond.code Lib.objectInit ⟨#[0xb1]⟩ 1 none ∈ gj_tb) (hst : st = []) (k : gn_G p l e R s m args below meth c D ad tc A nL n0 cells slots Q pc' lv st w) : gn_G p l e R s m args below meth c D ad tc A nL n0 cells slots Q pc lv (.ref a :: st) w := by
  obtain ⟨⟨hx, hb, hml, hown, hts, hr, hlk, hK, hA, hSt, hNw⟩, had, hsz, hn0, hO, hin⟩ := C
  subst hp
  subst hst
  intro H locs ls hL hP hD hS hz
  exact W.objInit hx hb hown (hts _ hl) (hts _ hw.1) (hts _ hw.2) rfl (hL.1.trans hml.symm) rfl hd hR.1 (Nat.le_trans (Nat.le_of_ble_eq_true rfl) hR.2) (k H locs ls hL hP hD hS hz)
theorem gn_newa (C : gn_C p s m args meth c D ad tc A cc nL ret own base n0 lim) {n : Int32} {N : Nat} (hp : pc + 2 = pc') (hd : decode cc pc = .ok (.newarray .int, 2)) (hw : Cond.arrayClass .int ∈ gj_tb) (hn : ¬ n < 0) (hN : n.toNatClampNeg = N) (hby : N ≤ 1000) (hc4 : cells ≤ 190) (hcells : cells + 1 ≤ R.cells) (hslots : slots + N ≤ R.slots) (k : gn_G p l e R s m args below meth c D ad tc A nL n0 (cells + 1) (slots + N) Q pc' lv (.ref w.length :: st) (w ++ [.inl (0, N, .inl (fun _ => 0))])) : gn_G p l e R s m args below meth c D ad tc A nL n0 cells slots Q pc lv (.int n :: st) w := by
  obtain ⟨⟨hx, hb, hml, hown, hts, hr, hlk, hK, hA, hSt, hNw⟩, had, hsz, hn0, hO, hin⟩ := C
  subst hp
  intro H locs ls hL hP hD hS hz
  refine gn_size (fun hup => ?_)
  have hH : H.size = base + w.length := gn_len had hP rfl (by omega) (by omega) (by omega)
  have ha : ad w.length = H.size := by rw [had _ (by omega), hH]
  refine va_newaK hx hb (atype := .int) (hts _ hw) rfl hd rfl hn hN (by show N * 4 ≤ _; omega) hcells hslots rfl fun H1 cA e1 z1 o1 hAr hNm => ?_
  have hcA : cA = tc 0 := by
    have h9 : s.vm.findClass ("[" ++ FieldType.int.toString) = some (tc 0) := (hK.2 0 (tc 0, .int) rfl).2
    exact Option.some.inj (hNm.symm.trans h9)
  subst hcA
  obtain ⟨hP1, hD1, hS1⟩ := gn_push (e := .inl (0, N, .inl (fun _ => 0))) hP hD hS hA ha z1 o1 e1
  rw [← ha]
  exact k H1 locs ls hL hP1 hD1 hS1 (by rw [List.length_append]; simp; omega)
theorem gn_newq (C : gn_C p s m args meth c D ad tc A cc nL ret own base n0 lim) {n : Int32} {N idx t : Nat} {C0 : String} (hp : pc + 3 = pc') (hd : decode cc pc = .ok (.anewarray idx, 3)) (hw : Cond.classLink own idx C0 ∈ gj_tb) (hov : va_AO C0 s) (ht : (ab_t tc)[t]? = some (tc t, .object C0)) (hn : ¬ n < 0) (hN : n.toNatClampNeg = N) (hby : N ≤ 1000) (hc4 : cells ≤ 190) (hcells : cells + 1 ≤ R.cells) (hslots : slots + N ≤ R.slots) (k : gn_G p l e R s m args below meth c D ad tc A nL n0 (cells + 1) (slots + N) Q pc' lv (.ref w.length :: st) (w ++ [.inl (t, N, .inr (fun _ => none))])) : gn_G p l e R s m args below meth c D ad tc A nL n0 cells slots Q pc lv (.int n :: st) w := by
  obtain ⟨⟨hx, hb, hml, hown, hts, hr, hlk, hK, hA, hSt, hNw⟩, had, hsz, hn0, hO, hin⟩ := C
  subst hp
  subst hN
  intro H locs ls hL hP hD hS hz
  refine gn_size (fun hup => ?_)
  have hH : H.size = base + w.length := gn_len had hP rfl (by omega) (by omega) (by omega)
  have ha : ad w.length = H.size := by rw [had _ (by omega), hH]
  refine W.anew hx hb hown (hts _ hw) (va_AO.use hov) rfl hd rfl hn (by omega) hcells hslots fun cA kA comp f1 f2 f3 f4 => ?_
  have hcA : cA = tc t := by
    obtain ⟨kB, cB, -, -, -, h9⟩ : ∃ (kA : Class) (comp : ClassId), s.vm.classes[tc t]? = some kA ∧ kA.kind = .array comp (.object C0) ∧ s.vm.findClass C0 = some comp ∧ s.vm.findClass ("[" ++ (FieldType.object C0).toString) = some (tc t) := (hK.2 t _ ht).2
    exact Option.some.inj (f1.symm.trans h9)
  subst hcA
  generalize hH1 : H.push ({ cls := tc t, slots := Array.replicate n.toNatClampNeg .null, vm := .none } : Cell) = H1
  have z1 : H1.size = H.size + 1 := by rw [← hH1, Array.size_push]
  have e1 : H1[H.size]? = some (arrV (tc t) n.toNatClampNeg (fun _ => .null)) := by rw [← hH1, Array.getElem?_push_size, ← arrV_new]
  have o1 : ∀ q : Nat, q < H.size → H1[q]? = H[q]? := fun q hq => by rw [← hH1, Array.getElem?_push, if_neg (Nat.ne_of_lt hq)]
  obtain ⟨hP1, hD1, hS1⟩ := gn_push (e := .inl (t, n.toNatClampNeg, .inr (fun _ => none))) hP hD hS hA ha z1 o1 (by show H1[H.size]? = some (vp_cell _ _); rw [vp_cell_q]; exact e1)
  rw [← ha]
  exact k H1 locs ls hL hP1 hD1 hS1 (by rw [List.length_append]; simp; omega)
theorem gn_new (C : gn_C p s m args meth c D ad tc A cc nL ret own base n0 lim) {C0 : String} {T : u_T} {N ci idx : Nat} {fs : List Value} (tys : Nat → FieldType) (hp : pc + 3 = pc') (hd : decode cc pc = .ok (.new idx, 3)) (hw : Cond.classLink own idx C0 ∈ gj_tb ∧ Cond.instantiable C0 N ∈ gj_tb ∧ Cond.initialized C0 ∈ gj_tb) (hin0 : ∀ w ∈ u_ws C0 T N, w ∈ gj_tb) (hc : vwCl[ci]? = some (C0, T, N)) (hty : ∀ k, k < N → parseFieldDescriptor (T k).2.2.1 = some (tys k)) (hfs : ∀ j, j < N → defaultValue (tys j) = vp_V (fs.map (ab_v ad)) j) (hc4 : cells ≤ 190) (hcells : cells + 1 ≤ R.cells) (hslots : slots + N ≤ R.slots) (k : gn_G p l e R s m args below meth c D ad tc A nL n0 (cells + 1) (slots + N) Q pc' lv (.ref w.length :: st) (w ++ [.inr (ci, fs)])) : gn_G p l e R s m args below meth c D ad tc A nL n0 cells slots Q pc lv st w := by
  obtain ⟨⟨hx, hb, hml, hown, hts, hr, hlk, hK, hA, hSt, hNw⟩, had, hsz, hn0, hO, hin⟩ := C
  subst hp
  intro H locs ls hL hP hD hS hz
  refine gn_size (fun hup => ?_)
  have hH : H.size = base + w.length := gn_len had hP rfl (by omega) (by omega) (by omega)
  have ha : ad w.length = H.size := by rw [had _ (by omega), hH]
  have hKn := hK.1 ci _ hc
  refine W.newcK hx hb hown (hts _ hw.1) (hts _ hw.2.1) (hts _ hw.2.2) rfl hd hcells hslots hKn.2.1 rfl fun H1 kC hkC e1 z1 o1 => ?_
  obtain ⟨hP1, hD1, hS1⟩ := gn_push (e := .inr (ci, fs)) hP hD hS hA ha z1 o1 ⟨_, hc, (u_born tys hts hin0 hKn hkC e1 hty).to hfs⟩
  rw [← ha]
  exact k H1 locs ls hL hP1 hD1 hS1 (by rw [List.length_append]; simp; omega)
theorem gn_vret (C : gn_C p s m args meth c D ad tc A cc nL none own base n0 lim) {w1 : ab_W} {mc ms : Nat} (hd : decode cc pc = .ok (.return_, 1)) (h : (some w : Option ab_W) = some w1) : gn_G p l e R s m args below meth c D ad tc A nL n0 mc ms (gn_Q D ad tc A below args s n0 mc ms w1) pc lv [] w := by
  obtain ⟨⟨hx, hb, hml, hown, hts, hr, hlk, hK, hA, hSt, hNw⟩, had, hsz, hn0, hO, hin⟩ := C
  cases h
  intro H locs ls hL hP hD hS hz
  exact W.vret hx hb hr (fun t ht hW => ⟨⟨w, rfl, ⟨rfl, hz⟩, by rw [ht]; exact hP, hD⟩, hS.F ht⟩) hS.2.2 hd hlk
end GN
section GNC
variable {p : Program} {l : Launch} {e : Env} {s : State} {m : MethodId} {args : Array Value} {below : List Frame} {meth : Method} {c : Code} {D : va_G} {ad : Nat → Nat} {tc : Nat → ClassId} {A : Nat → Prop} {nL n0 cells slots base lim mcR msR : Nat} {Q : State → Prop} {pc pc' : Nat} {lv : List (Option Value)} {st : List Value} {w : ab_W} {cc : ByteArray} {ret : Option FieldType} {own : String}
/-- a constructor of another class is called -/
theorem gn_callI (C : gn_C p s m args meth c D ad tc A cc nL ret own base n0 lim) {d dy limY mc ms : Nat} {y : MethodName} {cy : ByteArray} {ny idx a : Nat} {α : Type} {f : ab_W → Option α} {r0 : α} {S : Option ab_W}
    (hp : pc + 3 = pc') (hd : decode cc pc = .ok (.invokespecial idx, 3)) (hl : Cond.methodLink own idx y ∈ gj_tb) (hY : gj_Y y cy ny none 0) (hYi : Cond.instanceMethod y ∈ gj_tb) (hnm : y.name = "<init>") (h : S.bind f = some r0) (hM : ∀ w1, S = some w1 → gn_M y cy ny dy limY mc ms [.ref a] w w1) (hR : dy + 1 ≤ d) (hc4 : lim + cells ≤ limY) (hc5 : cells ≤ 190) (hcells : cells + mc ≤ mcR) (hslots : slots + ms ≤ msR) (hcat : (st.map fun v => v.category).sum ≤ 8)
    (k : ∀ w1, f w1 = some r0 → gn_G p l e (gn_R d mcR msR) s m args below meth c D ad tc A nL n0 (cells + mc) (slots + ms) Q pc' lv st w1) : gn_G p l e (gn_R d mcR msR) s m args below meth c D ad tc A nL n0 cells slots Q pc lv (.ref a :: st) w := by
  obtain ⟨⟨hx, hb, hml, hown, hts, hr, hlk, hK, hA, hSt, hNw⟩, had, hsz, hn0, hO, hin⟩ := C
  subst hp
  obtain ⟨w1, h1, h2⟩ := ab_bd h
  have M := hM w1 h1
  intro H locs ls hL hP hD hS hz
  refine gn_size (fun hup => ?_)
  have hH : H.size = base + w.length := gn_len had hP rfl (by omega) (by omega) (by omega)
  obtain ⟨g1, g2, g3, g4, g5⟩ := hY
  have cb : CallB (gn_R d mcR msR) s args own idx y cy ny none (gj_ws y cy ny none) (gn_R dy mc ms) mc ms 0 := by
    refine callB_of (ws' := gj_tb) 0 hts ?_ rfl rfl rfl (hts _ g2) (hts _ hl) ⟨g3.1, g3.2, g4⟩ ⟨hR, ?_⟩
    · intro w hw
      rcases List.mem_cons.mp hw with rfl | hw
      · exact gj_good _ g1
      · exact gj_good _ hw
    · show 8 + (ny + 11) + 64 * dy ≤ 64 * d
      omega
  have bl : FrameBlind (va_Pc ([Value.ref a].map (ab_v ad)) (gn_B D ad tc A base w)) := by
    intro a U g mk q
    obtain ⟨q0, ⟨qP, qK, qD, qA, qS, qN⟩, qz, qO⟩ := q
    exact ⟨q0, ⟨qP, va_K.moved (u := U) (U := U.calling g mk a) (Vm.Alike.refl U.vm) qK, qD, qA, gj_S.moved (u := U) (U := U.calling g mk a) (Vm.Alike.refl U.vm) qS, va_Nw.same (u := U) (U := U.calling g mk a) rfl rfl qN⟩, qz, gn_O.moved (u := U) (U := U.calling g mk a) (Vm.Alike.refl U.vm) qO⟩
  refine va_callv (va_runI (b := ad a) (As := []) (rest := st.map (ab_v ad)) ⟨hx, hb, hml, hown, hts⟩ (M l D ad tc A base had (by omega)) ⟨cb, hnm, hts _ hYi⟩ ⟨bl, fun U hU hW => ⟨rfl, (gj_pre hK hA hSt hNw hP hD hS [.ref a] U hU hW).2, by rw [hU]; exact hH, hO.moved hW.alike⟩⟩ rfl rfl hL.1 rfl (lv_room (by rw [List.map_map]; rw [show ((fun v => v.category) ∘ ab_v ad) = (fun v : Value => v.category) from funext (ab_v_cat ad)]; exact hcat)) hd ⟨hcells, hslots⟩) hS (fun q _ h => h) (fun q h => h) (fun u t H1 locs1 ht hvm hw hB hz1 hk1 hS1 => ?_)
  obtain ⟨rfl, hlen⟩ := hw
  obtain ⟨hP1, hD1⟩ := hB
  rw [ht] at hP1
  exact k u h2 H1 locs1 ls hL hP1 hD1 hS1 (by omega)
/-- a method that makes no cells -/
theorem gn_callVv (C : gn_C p s m args meth c D ad tc A cc nL ret own base n0 lim) {d dy : Nat} {y : MethodName} {cy : ByteArray} {ny n idx ci a : Nat} {ry : Option FieldType} {As st0 : List Value} {α : Type} {f : ab_W → Option α} {r0 : α} {S : Option ab_W}
    (hp : pc + 3 = pc') (hd : decode cc pc = .ok (.invokevirtual idx, 3)) (hl : Cond.methodLink own idx y ∈ gj_tb) (hY : gj_YC y cy ny ry n ci) (h : S.bind f = some r0) (hM : ∀ w1, S = some w1 → gj_Mv y cy ny ry dy (.ref a :: As) w w1 ∧ ab_is w ci a = true) (hsm : ∀ w1, S = some w1 → w1.length = w.length) (hR : dy + 1 ≤ d) (hst : st0 = As.reverse ++ .ref a :: st) (hn : As.length = n) (hcells : cells ≤ mcR) (hslots : slots ≤ msR) (hcat : (st.map fun v => v.category).sum ≤ 8)
    (k : ∀ w1, f w1 = some r0 → gn_G p l e (gn_R d mcR msR) s m args below meth c D ad tc A nL n0 cells slots Q pc' lv st w1) : gn_G p l e (gn_R d mcR msR) s m args below meth c D ad tc A nL n0 cells slots Q pc lv st0 w := by
  obtain ⟨⟨hx, hb, hml, hown, hts, hr, hlk, hK, hA, hSt, hNw⟩, had, hsz, hn0, hO, hin⟩ := C
  subst hp
  subst hst
  obtain ⟨w1, h1, h2⟩ := ab_bd h
  obtain ⟨hY, T, N, hci⟩ := hY
  obtain ⟨M, hi⟩ := hM w1 h1
  have hs9 := hsm w1 h1
  intro H locs ls hL hP hD hS hz
  obtain ⟨fs, hfs⟩ := Option.isSome_iff_exists.mp (show (ab_obj w ci a).isSome = true from hi)
  have hrec := va_recv hK hP hci (ab_x_get (ab_obj_some hfs))
  have e1 : (As.reverse ++ Value.ref a :: st).map (ab_v ad) = (As.map (ab_v ad)).reverse ++ .ref (ad a) :: st.map (ab_v ad) := by
    rw [List.map_append, List.map_reverse]; rfl
  rw [e1]
  have cb : CallB (gn_R d mcR msR) s args own idx y cy ny ry (gj_ws y cy ny ry) (gj_R dy) 0 0 n := by
    obtain ⟨g1, g2, g3, g4, g5⟩ := hY.1
    refine callB_of (ws' := gj_tb) n hts ?_ rfl rfl rfl (hts _ g2) (hts _ hl) ⟨g3.1, g3.2, g4⟩ ⟨hR, ?_⟩
    · intro w hw
      rcases List.mem_cons.mp hw with rfl | hw
      · exact gj_good _ g1
      · exact gj_good _ hw
    · show 8 + (ny + 11) + 64 * dy ≤ 64 * d
      omega
  refine va_callv (va_runV (b := ad a) (As := As.map (ab_v ad)) (rest := st.map (ab_v ad)) ⟨hx, hb, hml, hown, hts⟩ (M l D ad tc A) ⟨cb, hts _ hY.2.1, hts _ hY.2.2⟩ ⟨gj_B.blind, hrec, fun U hU hW => gj_pre hK hA hSt hNw hP hD hS (.ref a :: As) U hU hW⟩ rfl (by rw [List.length_map]; exact hn) hL.1 rfl (lv_room (by rw [List.map_map]; rw [show ((fun v => v.category) ∘ ab_v ad) = (fun v : Value => v.category) from funext (ab_v_cat ad)]; exact hcat)) hd ⟨hcells, hslots⟩) hS (fun q _ h => h) (fun q h => h) (fun u t H1 locs1 ht hvm hw hB hz1 hk1 hS1 => ?_)
  subst hw
  obtain ⟨hP1, hD1⟩ := hB
  rw [ht] at hP1
  exact k u h2 H1 locs1 ls hL hP1 hD1 hS1 (by omega)
end GNC
