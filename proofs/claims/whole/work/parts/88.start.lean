/-! ===== the start ===== -/
theorem bs {α β : Type} {x : Option α} {a : α} {f : α → Option β} {r : Option β} (h : x = some a) (h2 : f a = r) : x.bind f = r := by rw [h]; exact h2
theorem bi {α : Type} {c : Prop} [Decidable c] {x y r : α} (hc : c) (h : x = r) : (if c then x else y) = r := (if_pos hc).trans h
theorem ba {α : Type} {w : ab_W} {e : ab_E} {f : ab_W → Option α} {r : Option α} (h2 : f (w ++ [e]) = r) : ab_al w e f = r := h2
section OF
variable {P T T' : ab_W} {b o k j : Nat}
theorem o_at (hb : P.length = b) (k : Nat) : (P ++ T)[b + k]? = T[k]? := by
  rw [List.getElem?_append_right (by omega), hb, Nat.add_sub_cancel_left]
theorem o_set (hb : P.length = b) (k : Nat) (x : ab_E) : (P ++ T).set (b + k) x = P ++ T.set k x := by
  rw [List.set_append_right _ _ (by omega), hb, Nat.add_sub_cancel_left]
theorem o_obj (hb : P.length = b) (ho : b + k = o) (c : Nat) : ab_obj (P ++ T) c o = ab_obj T c k := by
  subst ho; rw [ab_obj, ab_obj, o_at hb]
theorem o_arr (hb : P.length = b) (ho : b + k = o) : ab_arr (P ++ T) o = ab_arr T k := by
  subst ho; rw [ab_arr, ab_arr, o_at hb]
theorem o_is {c : Nat} (hb : P.length = b) (ho : b + k = o) (h : ab_is T c k = true) : ab_is (P ++ T) c o = true := by
  rw [ab_is, o_obj hb ho]; exact h
theorem o_getR {c f q : Nat} (hb : P.length = b) (ho : b + k = o) (h : ab_getR T c k f = some q) : ab_getR (P ++ T) c o f = some q := by
  rw [ab_getR, o_obj hb ho]; exact h
theorem o_put {c f : Nat} {v : Value} (hb : P.length = b) (ho : b + k = o) (h : ab_put T c k f v = some T') : ab_put (P ++ T) c o f v = some (P ++ T') := by
  rw [ab_put] at h ⊢
  rw [o_obj hb ho]
  cases hf : ab_obj T c k with
  | none => rw [hf] at h; cases h
  | some fs =>
    rw [hf, Option.bind_some] at h
    rw [Option.bind_some]
    by_cases hl : f < fs.length
    · rw [if_pos hl] at h ⊢
      subst ho
      rw [o_set hb, Option.some.inj h]
    · rw [if_neg hl] at h; cases h
theorem o_putR {c f v : Nat} (hb : P.length = b) (ho : b + k = o) (h : ab_putR T c k f v = some T') : ab_putR (P ++ T) c o f v = some (P ++ T') := o_put hb ho h
theorem o_putI {c f : Nat} {v : Int32} (hb : P.length = b) (ho : b + k = o) (h : ab_putI T c k f v = some T') : ab_putI (P ++ T) c o f v = some (P ++ T') := o_put hb ho h
theorem o_putZ {c f : Nat} {v : Int32} (hb : P.length = b) (ho : b + k = o) (h : ab_putZ T c k f v = some T') : ab_putZ (P ++ T) c o f v = some (P ++ T') := by
  rw [ab_putZ] at h ⊢
  by_cases hv : v = 0 ∨ v = 1
  · rw [if_pos hv] at h ⊢
    exact o_put hb ho h
  · rw [if_neg hv] at h; cases h
theorem o_ald {i : Int32} (hb : P.length = b) (ho : b + k = o) : ab_ald (P ++ T) o i = ab_ald T k i := by
  rw [ab_ald, ab_ald, o_arr hb ho]
theorem o_len (hb : P.length = b) (ho : b + k = o) : ab_len (P ++ T) o = ab_len T k := by
  rw [ab_len, ab_len, o_arr hb ho]
theorem o_ast {i v : Int32} (hb : P.length = b) (ho : b + k = o) (h : ab_ast T k i v = some T') : ab_ast (P ++ T) o i v = some (P ++ T') := by
  rw [ab_ast] at h ⊢
  rw [o_arr hb ho]
  cases hf : ab_arr T k with
  | none => rw [hf] at h; cases h
  | some q =>
    rw [hf, Option.bind_some] at h
    rw [Option.bind_some]
    by_cases hl : i < 0 ∨ q.1 ≤ i.toNatClampNeg
    · rw [if_pos hl] at h; cases h
    · rw [if_neg hl] at h ⊢
      subst ho
      rw [o_set hb, Option.some.inj h]
theorem o_rst {t n ci x i : Nat} {g : Nat → Option Nat} {fs : List Value} (hb : P.length = b) (ho : b + k = o) (hx : b + j = x) (h : T[k]? = some (.inl (t, n, .inr g))) (hj : T[j]? = some (.inr (ci, fs))) (hn : n < 2 ^ 31) (hi : i < n) : ab_rst (P ++ T) t o (nI i) ci x = some (P ++ T.set k (.inl (t, n, .inr (va_up g i (some x))))) := by
  subst ho hx
  have h1 : ab_refs (P ++ T) t (b + k) = some (n, g) := by
    rw [ab_refs, o_at hb, h]; simp
  have h2 : ab_obj (P ++ T) ci (b + j) = some fs := by
    rw [ab_obj, o_at hb, hj]; simp
  rw [ab_rst, h1, Option.bind_some, h2, Option.bind_some, if_neg (nI_in hi hn), nI_clamp (by omega), o_set hb]
theorem ba2 {α : Type} {e : ab_E} {f : ab_W → Option α} {r : Option α} (h2 : f (P ++ (T ++ [e])) = r) : ab_al (P ++ T) e f = r := by
  rw [← List.append_assoc] at h2; exact h2
end OF
def pW (P : ab_W) (f g h : Nat → Int32) : ab_W := P ++ [.inr (6, [.ref 12, .ref 13, .ref 14, .ref 15, .ref 16]), .inl (0, 128, .inl f), .inl (0, 128, .inl g), .inl (0, 16, .inl h), .inl (0, 128, .inl (fun _ => 0)), .inl (0, 128, .inl (fun _ => 0))]
section PW
variable {P : ab_W}
theorem p_is (hP : P.length = 11) (f g h : Nat → Int32) : ab_is (pW P f g h) 6 11 = true := o_is hP (k := 0) rfl rfl
theorem p_R0 (hP : P.length = 11) (f g h : Nat → Int32) : ab_getR (pW P f g h) 6 11 0 = some 12 := o_getR hP (k := 0) rfl rfl
theorem p_R1 (hP : P.length = 11) (f g h : Nat → Int32) : ab_getR (pW P f g h) 6 11 1 = some 13 := o_getR hP (k := 0) rfl rfl
theorem p_R2 (hP : P.length = 11) (f g h : Nat → Int32) : ab_getR (pW P f g h) 6 11 2 = some 14 := o_getR hP (k := 0) rfl rfl
theorem p_N (hP : P.length = 11) (f g h : Nat → Int32) : ab_len (pW P f g h) 14 = some (nI 16) := (o_len hP (k := 3) rfl).trans rfl
theorem p_A (hP : P.length = 11) (f g h : Nat → Int32) {j : Nat} (hj : j < 16) : ab_ald (pW P f g h) 14 (nI j) = some (h j) := (o_ald hP (k := 3) rfl).trans (ab_rd_nI (n := 16) hj (by decide))
theorem p_S14 (hP : P.length = 11) (f g h : Nat → Int32) {j : Nat} (v : Int32) (hj : j < 16) : ab_ast (pW P f g h) 14 (nI j) v = some (pW P f g (upd h j v)) := by
  have h1 : ¬ (nI j < 0 ∨ 16 ≤ (nI j).toNatClampNeg) := nI_in hj (by decide)
  refine o_ast hP (k := 3) rfl ?_
  show (if nI j < 0 ∨ 16 ≤ (nI j).toNatClampNeg then none else _) = _
  rw [if_neg h1, nI_clamp (by omega)]
  rfl
theorem p_S12 (hP : P.length = 11) (f g h : Nat → Int32) {j : Nat} (v : Int32) (hj : j < 128) : ab_ast (pW P f g h) 12 (nI j) v = some (pW P (upd f j v) g h) := by
  have h1 : ¬ (nI j < 0 ∨ 128 ≤ (nI j).toNatClampNeg) := nI_in hj (by decide)
  refine o_ast hP (k := 1) rfl ?_
  show (if nI j < 0 ∨ 128 ≤ (nI j).toNatClampNeg then none else _) = _
  rw [if_neg h1, nI_clamp (by omega)]
  rfl
theorem p_S13 (hP : P.length = 11) (f g h : Nat → Int32) {j : Nat} (v : Int32) (hj : j < 128) : ab_ast (pW P f g h) 13 (nI j) v = some (pW P f (upd g j v) h) := by
  have h1 : ¬ (nI j < 0 ∨ 128 ≤ (nI j).toNatClampNeg) := nI_in hj (by decide)
  refine o_ast hP (k := 2) rfl ?_
  show (if nI j < 0 ∨ 128 ≤ (nI j).toNatClampNeg then none else _) = _
  rw [if_neg h1, nI_clamp (by omega)]
  rfl
end PW
section PX
variable {P : ab_W} {f g h : Nat → Int32}
theorem p_fill_5 (hP : P.length = 11) : ∀ (m j n : Nat), j + m = 16 → sJ7_fill_53178_5 (n + m + 1) 14 0 (nI j) (nI 16) (pW P f g (zf h j)) = some (pW P f g (zf h 16)) := by
  intro m
  induction m with
  | zero =>
    intro j n hj
    have : j = 16 := by omega
    subst this
    rw [sJ7_fill_53178_5, if_neg (by decide)]
  | succ m ih =>
    intro j n hj
    rw [show n + (m + 1) + 1 = (n + m + 1) + 1 by omega, sJ7_fill_53178_5, if_pos (nI_lt (by omega) (by decide)), p_S14 hP _ _ _ _ (by omega), Option.bind_some, zf_step, nI_1]
    exact ih (j + 1) n (by omega)
theorem p_fill (hP : P.length = 11) : sJ7_fill_53178 14 0 (pW P f g h) = some (pW P f g (zf h 16)) := by
  rw [sJ7_fill_53178, p_N hP, Option.bind_some]
  have := p_fill_5 (f := f) (g := g) (h := h) hP 16 0 983 rfl
  rw [zf_0] at this
  exact this
theorem nI_min {a b : Nat} (ha : a < 2 ^ 31) (hb : b < 2 ^ 31) : (if nI a < nI b then nI a else nI b) = nI (min b a) := by
  by_cases h : a < b
  · rw [if_pos (nI_lt h hb), Nat.min_eq_right (by omega)]
  · rw [if_neg (nI_nlt (by omega) ha), Nat.min_eq_left (by omega)]
theorem nI_max {a b : Nat} (ha : a < 2 ^ 31) (hb : b < 2 ^ 31) : (if nI a < nI b then nI b else nI a) = nI (max a b) := by
  by_cases h : a < b
  · rw [if_pos (nI_lt h hb), Nat.max_eq_right (by omega)]
  · rw [if_neg (nI_nlt (by omega) ha), Nat.max_eq_left (by omega)]
theorem p_lay_64 (hP : P.length = 11) {k25 : Nat → Int32 → Int32 → Int32 → Int32 → Int32 → Int32 → Int32 → ab_W → Option (ab_W)} {x1 x3 x4 x5 x6 x7 : Int32} {p : Nat} (hp : p < 16) : sX6_layFlat_64 k25 11 x1 (nI p) x3 x4 x5 x6 x7 (pW P f g h) = k25 11 x1 (nI p) x3 (if nI p < x4 then nI p else x4) (if x5 < nI p then nI p else x5) (if x6 < h p + 1 then h p + 1 else x6) (x7 + 1) (pW P f g (upd h p (h p + 1))) := by
  rw [sX6_layFlat_64, if_neg (nI_pos (by omega)), p_R2 hP, Option.bind_some, p_N hP, Option.bind_some, if_pos (nI_lt hp (by decide)), Option.bind_some, p_A hP _ _ _ hp, Option.bind_some, p_S14 hP _ _ _ _ hp, Option.bind_some, p_R2 hP, Option.bind_some, p_A hP _ _ _ hp, Option.bind_some, upd_same, sX6_layFlat_100]
theorem lws_le (c : Nat) : ∀ k, lws c k ≤ 8 := by
  intro k
  induction k with
  | zero => exact Nat.le_refl _
  | succ k ih => rw [lws]; omega
theorem hgs_le (c : Nat) : ∀ k, k ≤ 7 → hgs c k ≤ 15 := by
  intro k
  induction k with
  | zero => intro _; simp [hgs]
  | succ k ih =>
    intro hk
    have := ih (by omega)
    have := stp_rng c (k + 1) hk
    rw [hgs]; omega
theorem hgs_ge (c : Nat) : ∀ k, 8 ≤ hgs c k := by
  intro k
  induction k with
  | zero => exact Nat.le_refl _
  | succ k ih => rw [hgs]; omega
theorem lyn_le (c : Nat) : ∀ k i, lyn c k i ≤ k + 1 := by
  intro k
  induction k with
  | zero => intro i; rw [lyn]; split <;> omega
  | succ k ih =>
    intro i
    have := ih i
    rw [lyn]; split <;> omega
theorem mxs_le (c : Nat) : ∀ k, mxs c k ≤ k + 1 := by
  intro k
  induction k with
  | zero => simp [mxs]
  | succ k ih =>
    have := lyn_le c (k + 1) (stp c (k + 1)).1
    rw [mxs]; omega
theorem p_lay_25 (hP : P.length = 11) {c : Nat} (hc : c < 128) : ∀ (m k n : Nat), k + m = 7 → sX6_layFlat_25 (n + m + 1) 11 (nI c) (nI (stp c k).1) (wI (stp c k).2) (nI (lws c k)) (nI (hgs c k)) (nI (mxs c k)) (nI (k + 1)) (pW P f g (lyF c k h)) = some (pW P (upd f c (nI (wid c))) (upd g c (nI (thk c))) (lyF c 7 h)) := by
  intro m
  induction m with
  | zero =>
    intro k n hk
    have : k = 7 := by omega
    subst this
    have h1 := lws_le c 7
    have h2 := hgs_ge c 7
    rw [sX6_layFlat_25, if_neg (by decide), p_R0 hP, Option.bind_some, pk_sub (by omega), nI_1, p_S12 hP _ _ _ _ hc, Option.bind_some, p_R1 hP, Option.bind_some, p_S13 hP _ _ _ _ hc, Option.bind_some]
    rfl
  | succ m ih =>
    intro k n hk
    have hr := stp_rng c k (by omega)
    have hr1 := stp_rng c (k + 1) (by omega)
    have e := ih (k + 1) n (by omega)
    have q1 := lws_le c k
    have q2 := hgs_le c k (by omega)
    have q3 := mxs_le c k
    have q4 := lyn_le c (k + 1) (stp c (k + 1)).1
    have hh : lyF c k h (stp c (k + 1)).1 + 1 = nI (lyn c (k + 1) (stp c (k + 1)).1) := by
      rw [lyF_at h (by omega), lyn, if_pos rfl]
      exact nI_1 _
    have fin : some (pW P (upd f c (nI (wid c))) (upd g c (nI (thk c))) (lyF c 7 h)) = sX6_layFlat_25 (n + m + 1) 11 (nI c) (nI (stp c (k + 1)).1) (wI (stp c (k + 1)).2) (if nI (stp c (k + 1)).1 < nI (lws c k) then nI (stp c (k + 1)).1 else nI (lws c k)) (if nI (hgs c k) < nI (stp c (k + 1)).1 then nI (stp c (k + 1)).1 else nI (hgs c k)) (if nI (mxs c k) < lyF c k h (stp c (k + 1)).1 + 1 then lyF c k h (stp c (k + 1)).1 + 1 else nI (mxs c k)) (nI (k + 1) + 1) (pW P f g (upd (lyF c k h) (stp c (k + 1)).1 (lyF c k h (stp c (k + 1)).1 + 1))) := by
      rw [hh, nI_min (by omega) (by omega), nI_max (by omega) (by omega), nI_max (by omega) (by omega), ← hh, lyF_s h (by omega), nI_1]
      exact e.symm
    rw [show n + (m + 1) + 1 = (n + m + 1) + 1 by omega, sX6_layFlat_25, if_pos (show nI (k + 1) < 8 from nI_lt (b := 8) (by omega) (by omega)), if_pos (show 0 < nI (k + 1) from nI_lt (a := 0) (by omega) (by omega)), show nI (k + 1) - 1 = nI k from by rw [show (1 : Int32) = nI 1 from rfl, pk_sub (by omega)]; rfl]
    by_cases hb : c.testBit k = true
    · rw [if_pos ((bit_of hc (by omega)).mpr hb)]
      have e1 : (stp c (k + 1)).1 = (stp c k).1 := by simp [stp, hb]
      have e2 : (stp c (k + 1)).2 = !(stp c k).2 := by simp [stp, hb]
      rw [wI_neg, ← e2, ← e1, p_lay_64 hP (by omega)]
      exact fin.symm
    · rw [if_neg (fun h => hb ((bit_of hc (by omega)).mp h)), sX6_layFlat_55, if_pos (show 0 < nI (k + 1) from nI_lt (a := 0) (by omega) (by omega))]
      have e1 : (stp c (k + 1)).1 = if (stp c k).2 then (stp c k).1 + 1 else (stp c k).1 - 1 := by simp [stp, hb]
      have e2 : (stp c (k + 1)).2 = (stp c k).2 := by simp [stp, hb]
      rw [wI_add _ (by omega) (by omega), ← e1, ← e2, p_lay_64 hP (by omega)]
      exact fin.symm
theorem p_lay (hP : P.length = 11) {c : Nat} (hc : c < 128) : sX6_layFlat 11 (nI c) (pW P f g h) = some (pW P (upd f c (nI (wid c))) (upd g c (nI (thk c))) (lyF c 7 h)) := by
  have e := p_lay_25 (f := f) (g := g) (h := h) hP hc 7 0 991 rfl
  rw [sX6_layFlat, if_pos (p_is hP f g h), p_R2 hP, Option.bind_some, p_fill hP, Option.bind_some, show (1000 : Nat) = 999 + 1 from rfl, sX6_layFlat_25, if_pos (by decide), if_neg (by decide), sX6_layFlat_55, if_neg (by decide), show (8 : Int32) = nI 8 from rfl, p_lay_64 hP (p := 8) (by decide), lyF_0 c h]
  exact e
theorem p_init_50 (hP : P.length = 11) : ∀ (m c n : Nat) (f g h : Nat → Int32), c + m = 128 → (∀ i, i < c → f i = nI (wid i) ∧ g i = nI (thk i)) → ∃ f' g' h', sX6_init_50 (n + m + 1) 11 (nI c) (pW P f g h) = some (pW P f' g' h') ∧ RT f' g' := by
  intro m
  induction m with
  | zero =>
    intro c n f g h hc hr
    have : c = 128 := by omega
    subst this
    refine ⟨f, g, h, ?_, hr⟩
    rw [sX6_init_50, if_neg (by decide)]
  | succ m ih =>
    intro c n f g h hc hr
    obtain ⟨f', g', h', e1, e2⟩ := ih (c + 1) n (upd f c (nI (wid c))) (upd g c (nI (thk c))) (lyF c 7 h) (by omega) (fun i hi => by
      by_cases hic : i = c
      · subst hic; rw [upd_same, upd_same]; exact ⟨rfl, rfl⟩
      · rw [upd_ne hic, upd_ne hic]; exact hr i (by omega))
    refine ⟨f', g', h', ?_, e2⟩
    rw [show n + (m + 1) + 1 = (n + m + 1) + 1 by omega, sX6_init_50, if_pos (show nI c < 128 from nI_lt (b := 128) (by omega) (by decide)), p_lay hP (by omega), Option.bind_some, nI_1]
    exact e1
end PX
set_option maxHeartbeats 4000000 in
set_option maxRecDepth 100000 in
theorem x2_init {P : ab_W} {q : Nat} (hq : P.length = q) : sX2_init q (P ++ [.inr (2, [.null, .null, .int 0])]) = some (P ++ [.inr (2, [.ref (q + 1), .ref (q + 2), .int 0]), .inl (0, 50, .inl (fun _ => 0)), .inl (0, 50, .inl (fun _ => 0))]) := by
  rw [sX2_init]
  refine bi (o_is hq (k := 0) rfl rfl) ?_
  rw [List.length_append, hq]
  refine ba2 (bs (a := P ++ [.inr (2, [.ref (q + 1), .null, .int 0]), .inl (0, 50, .inl (fun _ => 0))]) (o_putR hq (k := 0) rfl rfl) ?_)
  rw [List.length_append, hq]
  refine ba2 (bs (a := P ++ [.inr (2, [.ref (q + 1), .ref (q + 2), .int 0]), .inl (0, 50, .inl (fun _ => 0)), .inl (0, 50, .inl (fun _ => 0))]) (o_putR hq (k := 0) rfl rfl) ?_)
  refine bs (a := P ++ [.inr (2, [.ref (q + 1), .ref (q + 2), .int 0]), .inl (0, 50, .inl (fun _ => 0)), .inl (0, 50, .inl (fun _ => 0))]) (o_putI hq (k := 0) rfl rfl) ?_
  rfl
set_option maxHeartbeats 4000000 in
set_option maxRecDepth 100000 in
theorem x5_init {P : ab_W} {q : Nat} (hq : P.length = q) : sX5_init q (P ++ [.inr (5, [.null, .int 0, .int 0])]) = some (P ++ [.inr (5, [.ref (q + 1), .int 0, .int 0]), .inl (0, 40, .inl (fun _ => 0))]) := by
  rw [sX5_init]
  refine bi (o_is hq (k := 0) rfl rfl) ?_
  rw [List.length_append, hq]
  refine ba2 (bs (a := P ++ [.inr (5, [.ref (q + 1), .int 0, .int 0]), .inl (0, 40, .inl (fun _ => 0))]) (o_putR hq (k := 0) rfl rfl) ?_)
  refine bs (a := P ++ [.inr (5, [.ref (q + 1), .int 0, .int 0]), .inl (0, 40, .inl (fun _ => 0))]) (o_putI hq (k := 0) rfl rfl) ?_
  refine bs (a := P ++ [.inr (5, [.ref (q + 1), .int 0, .int 0]), .inl (0, 40, .inl (fun _ => 0))]) (o_putI hq (k := 0) rfl rfl) ?_
  rfl
set_option maxHeartbeats 4000000 in
set_option maxRecDepth 100000 in
theorem x8_init {P : ab_W} {q : Nat} (hq : P.length = q) : sX8_init q (P ++ [.inr (8, [.null, .int 0, .int 0, .int 0, .int 0])]) = some (P ++ [.inr (8, [.ref (q + 1), .int 0, .int 0, .int 0, .int 0]), .inl (0, 40, .inl (fun _ => 0))]) := by
  rw [sX8_init]
  refine bi (o_is hq (k := 0) rfl rfl) ?_
  rw [List.length_append, hq]
  refine ba2 (bs (a := P ++ [.inr (8, [.ref (q + 1), .int 0, .int 0, .int 0, .int 0]), .inl (0, 40, .inl (fun _ => 0))]) (o_putR hq (k := 0) rfl rfl) ?_)
  refine bs (a := P ++ [.inr (8, [.ref (q + 1), .int 0, .int 0, .int 0, .int 0]), .inl (0, 40, .inl (fun _ => 0))]) (o_putI hq (k := 0) rfl rfl) ?_
  refine bs (a := P ++ [.inr (8, [.ref (q + 1), .int 0, .int 0, .int 0, .int 0]), .inl (0, 40, .inl (fun _ => 0))]) (o_putI hq (k := 0) rfl rfl) ?_
  refine bs (a := P ++ [.inr (8, [.ref (q + 1), .int 0, .int 0, .int 0, .int 0]), .inl (0, 40, .inl (fun _ => 0))]) (o_putI hq (k := 0) rfl rfl) ?_
  refine bs (a := P ++ [.inr (8, [.ref (q + 1), .int 0, .int 0, .int 0, .int 0]), .inl (0, 40, .inl (fun _ => 0))]) (o_putI hq (k := 0) rfl rfl) ?_
  rfl
set_option maxHeartbeats 4000000 in
set_option maxRecDepth 100000 in
theorem x1_init {P : ab_W} {q : Nat} (hq : P.length = q) : sX1_init q (P ++ [.inr (1, [.int 0, .int 0, .int 0, .int 0, .int 0])]) = some (P ++ [.inr (1, [.int 0, .int 0, .int 0, .int 0, .int 0])]) := by
  rw [sX1_init]
  refine bi (o_is hq (k := 0) rfl rfl) ?_
  refine bs (a := P ++ [.inr (1, [.int 0, .int 0, .int 0, .int 0, .int 0])]) (o_putI hq (k := 0) rfl rfl) ?_
  refine bs (a := P ++ [.inr (1, [.int 0, .int 0, .int 0, .int 0, .int 0])]) (o_putI hq (k := 0) rfl rfl) ?_
  refine bs (a := P ++ [.inr (1, [.int 0, .int 0, .int 0, .int 0, .int 0])]) (o_putZ hq (k := 0) rfl rfl) ?_
  refine bs (a := P ++ [.inr (1, [.int 0, .int 0, .int 0, .int 0, .int 0])]) (o_putZ hq (k := 0) rfl rfl) ?_
  refine bs (a := P ++ [.inr (1, [.int 0, .int 0, .int 0, .int 0, .int 0])]) (o_putI hq (k := 0) rfl rfl) ?_
  rfl
set_option maxHeartbeats 4000000 in
set_option maxRecDepth 100000 in
theorem x3_init {P : ab_W} {q : Nat} (hq : P.length = q) : sX3_init q (P ++ [.inr (3, [.int 0, .int 0, .int 0, .int 0, .int 0, .int 0])]) = some (P ++ [.inr (3, [.int 0, .int 0, .int 0, .int 0, .int 0, .int 0])]) := by
  have pI : ∀ k, k < 6 → ab_putI (P ++ [.inr (3, [.int 0, .int 0, .int 0, .int 0, .int 0, .int 0])]) 3 q k 0 = some (P ++ [.inr (3, [.int 0, .int 0, .int 0, .int 0, .int 0, .int 0])]) := fun k hk => by
    refine o_putI hq (k := 0) rfl ?_
    rcases (show k = 0 ∨ k = 1 ∨ k = 2 ∨ k = 3 ∨ k = 4 ∨ k = 5 by omega) with rfl | rfl | rfl | rfl | rfl | rfl <;> rfl
  have pZ : ab_putZ (P ++ [.inr (3, [.int 0, .int 0, .int 0, .int 0, .int 0, .int 0])]) 3 q 4 0 = some (P ++ [.inr (3, [.int 0, .int 0, .int 0, .int 0, .int 0, .int 0])]) := by
    rw [ab_putZ, if_pos (Or.inl rfl)]
    exact pI 4 (by decide)
  have hs : ab_is (P ++ [.inr (3, [.int 0, .int 0, .int 0, .int 0, .int 0, .int 0])]) 3 q = true := o_is hq (k := 0) rfl rfl
  rw [sX3_init, if_pos hs, sX3_lay, if_pos hs, show ab_div 0 10 = some 0 from by decide, Option.bind_some, pI 0 (by decide), Option.bind_some, show ab_rem 0 10 = some 0 from by decide, Option.bind_some, pI 1 (by decide), Option.bind_some, pI 2 (by decide), Option.bind_some, pI 3 (by decide), Option.bind_some, pZ, Option.bind_some, pI 5 (by decide)]
  rfl
set_option maxHeartbeats 4000000 in
set_option maxRecDepth 100000 in
theorem x7_init {P : ab_W} {q : Nat} (hq : P.length = q) : sX7_init q (P ++ [.inr (7, [.int 0, .int 0, .int 0, .int 0, .null, .null])]) = some (P ++ [.inr (7, [.int 0, .int 0, .int 0, .int 0, .ref (q + 1), .ref (q + 2)]), .inr (1, [.int 0, .int 0, .int 0, .int 0, .int 0]), .inl (0, 20, .inl (fun _ => 0))]) := by
  rw [sX7_init]
  refine bi (o_is hq (k := 0) rfl rfl) ?_
  rw [List.length_append, hq]
  refine ba (bs (x1_init (P := P ++ [.inr (7, [.int 0, .int 0, .int 0, .int 0, .null, .null])]) (q := q + 1) (by simp [hq])) ?_)
  rw [List.append_assoc]
  refine bs (a := P ++ [.inr (7, [.int 0, .int 0, .int 0, .int 0, .ref (q + 1), .null]), .inr (1, [.int 0, .int 0, .int 0, .int 0, .int 0])]) (o_putR hq (k := 0) rfl rfl) ?_
  rw [List.length_append, hq]
  refine ba2 (bs (a := P ++ [.inr (7, [.int 0, .int 0, .int 0, .int 0, .ref (q + 1), .ref (q + 2)]), .inr (1, [.int 0, .int 0, .int 0, .int 0, .int 0]), .inl (0, 20, .inl (fun _ => 0))]) (o_putR hq (k := 0) rfl rfl) ?_)
  refine bs (a := P ++ [.inr (7, [.int 0, .int 0, .int 0, .int 0, .ref (q + 1), .ref (q + 2)]), .inr (1, [.int 0, .int 0, .int 0, .int 0, .int 0]), .inl (0, 20, .inl (fun _ => 0))]) (o_putI hq (k := 0) rfl rfl) ?_
  refine bs (a := P ++ [.inr (7, [.int 0, .int 0, .int 0, .int 0, .ref (q + 1), .ref (q + 2)]), .inr (1, [.int 0, .int 0, .int 0, .int 0, .int 0]), .inl (0, 20, .inl (fun _ => 0))]) (o_putI hq (k := 0) rfl rfl) ?_
  refine bs (a := P ++ [.inr (7, [.int 0, .int 0, .int 0, .int 0, .ref (q + 1), .ref (q + 2)]), .inr (1, [.int 0, .int 0, .int 0, .int 0, .int 0]), .inl (0, 20, .inl (fun _ => 0))]) (o_putI hq (k := 0) rfl rfl) ?_
  refine bs (a := P ++ [.inr (7, [.int 0, .int 0, .int 0, .int 0, .ref (q + 1), .ref (q + 2)]), .inr (1, [.int 0, .int 0, .int 0, .int 0, .int 0]), .inl (0, 20, .inl (fun _ => 0))]) (o_putI hq (k := 0) rfl rfl) ?_
  rfl
set_option maxHeartbeats 4000000 in
set_option maxRecDepth 100000 in
theorem x4_init {P : ab_W} {q : Nat} (hq : P.length = q) : sX4_init q (P ++ [.inr (4, [.null, .int 0, .null, .int 0, .int 0])]) = some (P ++ [.inr (4, [.ref (q + 1), .int 0, .ref (q + 4), .int 0, .int 0]), .inr (2, [.ref ((q + 1) + 1), .ref ((q + 1) + 2), .int 0]), .inl (0, 50, .inl (fun _ => 0)), .inl (0, 50, .inl (fun _ => 0)), .inl (0, 0, .inl (fun _ => 0))]) := by
  rw [sX4_init]
  refine bi (o_is hq (k := 0) rfl rfl) ?_
  rw [List.length_append, hq]
  refine ba (bs (x2_init (P := P ++ [.inr (4, [.null, .int 0, .null, .int 0, .int 0])]) (q := q + 1) (by simp [hq])) ?_)
  rw [List.append_assoc]
  refine bs (a := P ++ [.inr (4, [.ref (q + 1), .int 0, .null, .int 0, .int 0]), .inr (2, [.ref ((q + 1) + 1), .ref ((q + 1) + 2), .int 0]), .inl (0, 50, .inl (fun _ => 0)), .inl (0, 50, .inl (fun _ => 0))]) (o_putR hq (k := 0) rfl rfl) ?_
  rw [List.length_append, hq]
  refine ba2 (bs (a := P ++ [.inr (4, [.ref (q + 1), .int 0, .ref (q + 4), .int 0, .int 0]), .inr (2, [.ref ((q + 1) + 1), .ref ((q + 1) + 2), .int 0]), .inl (0, 50, .inl (fun _ => 0)), .inl (0, 50, .inl (fun _ => 0)), .inl (0, 0, .inl (fun _ => 0))]) (o_putR hq (k := 0) rfl rfl) ?_)
  refine bs (a := P ++ [.inr (4, [.ref (q + 1), .int 0, .ref (q + 4), .int 0, .int 0]), .inr (2, [.ref ((q + 1) + 1), .ref ((q + 1) + 2), .int 0]), .inl (0, 50, .inl (fun _ => 0)), .inl (0, 50, .inl (fun _ => 0)), .inl (0, 0, .inl (fun _ => 0))]) (o_putI hq (k := 0) rfl rfl) ?_
  refine bs (a := P ++ [.inr (4, [.ref (q + 1), .int 0, .ref (q + 4), .int 0, .int 0]), .inr (2, [.ref ((q + 1) + 1), .ref ((q + 1) + 2), .int 0]), .inl (0, 50, .inl (fun _ => 0)), .inl (0, 50, .inl (fun _ => 0)), .inl (0, 0, .inl (fun _ => 0))]) (o_putI hq (k := 0) rfl rfl) ?_
  refine bs (a := P ++ [.inr (4, [.ref (q + 1), .int 0, .ref (q + 4), .int 0, .int 0]), .inr (2, [.ref ((q + 1) + 1), .ref ((q + 1) + 2), .int 0]), .inl (0, 50, .inl (fun _ => 0)), .inl (0, 50, .inl (fun _ => 0)), .inl (0, 0, .inl (fun _ => 0))]) (o_putI hq (k := 0) rfl rfl) ?_
  rfl
theorem u_q (q : Nat) : (va_up (va_up (va_up (va_up (va_up (va_up (va_up (va_up (fun _ => none) 0 (some (q + 5))) 1 (some (q + 6))) 2 (some (q + 7))) 3 (some (q + 8))) 4 (some (q + 9))) 5 (some (q + 10))) 6 (some (q + 11))) 7 (some (q + 12))) = prf (q + 5) 8 := by
  funext j
  match j with
  | 0 => rfl
  | 1 => rfl
  | 2 => rfl
  | 3 => rfl
  | 4 => rfl
  | 5 => rfl
  | 6 => rfl
  | 7 => rfl
  | j + 8 =>
    have h : ∀ k, k < 8 → j + 8 ≠ k := fun k hk => by omega
    simp (disch := decide) only [prf, va_up, h, if_false]
    rw [if_neg (by omega)]
theorem t_q (q : Nat) : (va_up (va_up (fun _ => none) 0 (some (q + 13))) 1 (some (q + 16))) = prf3 (q + 13) 2 := by
  funext j
  match j with
  | 0 => rfl
  | 1 => rfl
  | j + 2 =>
    have h : ∀ k, k < 2 → j + 2 ≠ k := fun k hk => by omega
    simp (disch := decide) only [prf3, va_up, h, if_false]
    rw [if_neg (by omega)]
theorem s_2 : (va_up (va_up (va_up (va_up (fun _ => none) 0 (some 3)) 1 (some 5)) 2 (some 7)) 3 (some 9)) = prf2 3 4 := by
  funext j
  match j with
  | 0 => rfl
  | 1 => rfl
  | 2 => rfl
  | 3 => rfl
  | j + 4 =>
    have h : ∀ k, k < 4 → j + 4 ≠ k := fun k hk => by omega
    simp (disch := decide) only [prf2, va_up, h, if_false]
    rw [if_neg (by omega)]
set_option maxHeartbeats 4000000 in
set_option maxRecDepth 100000 in
theorem x0_init {P : ab_W} {q : Nat} (hq : P.length = q) : sX0_init q (P ++ [.inr (0, [.null, .null, .null, .null, .int 0, .int 0, .int 0, .int 0, .int 0, .int 0])]) = some (P ++ [.inr (0, [.ref (q + 1), .ref (q + 2), .ref (q + 3), .ref (q + 4), .int 0, .int 0, .int 0, .int 0, .int 0, .int 1]), .inl (1, 8, .inr (prf (q + 5) 8)), .inl (0, 50, .inl (fun _ => 0)), .inl (2, 2, .inr (prf3 (q + 13) 2)), .inl (0, 20, .inl (fun _ => 0)), .inr (3, [.int 0, .int 0, .int 0, .int 0, .int 0, .int 0]), .inr (3, [.int 0, .int 0, .int 0, .int 0, .int 0, .int 0]), .inr (3, [.int 0, .int 0, .int 0, .int 0, .int 0, .int 0]), .inr (3, [.int 0, .int 0, .int 0, .int 0, .int 0, .int 0]), .inr (3, [.int 0, .int 0, .int 0, .int 0, .int 0, .int 0]), .inr (3, [.int 0, .int 0, .int 0, .int 0, .int 0, .int 0]), .inr (3, [.int 0, .int 0, .int 0, .int 0, .int 0, .int 0]), .inr (3, [.int 0, .int 0, .int 0, .int 0, .int 0, .int 0]), .inr (2, [.ref (q + 14), .ref (q + 15), .int 0]), .inl (0, 50, .inl (fun _ => 0)), .inl (0, 50, .inl (fun _ => 0)), .inr (2, [.ref (q + 17), .ref (q + 18), .int 0]), .inl (0, 50, .inl (fun _ => 0)), .inl (0, 50, .inl (fun _ => 0))]) := by
  rw [← u_q, ← t_q]
  rw [sX0_init]
  refine bi (o_is hq (k := 0) rfl rfl) ?_
  rw [List.length_append, hq]
  refine ba2 (bs (a := P ++ [.inr (0, [.ref (q + 1), .null, .null, .null, .int 0, .int 0, .int 0, .int 0, .int 0, .int 0]), .inl (1, 8, .inr (fun _ => none))]) (o_putR hq (k := 0) rfl rfl) ?_)
  rw [List.length_append, hq]
  refine ba2 (bs (a := P ++ [.inr (0, [.ref (q + 1), .ref (q + 2), .null, .null, .int 0, .int 0, .int 0, .int 0, .int 0, .int 0]), .inl (1, 8, .inr (fun _ => none)), .inl (0, 50, .inl (fun _ => 0))]) (o_putR hq (k := 0) rfl rfl) ?_)
  rw [List.length_append, hq]
  refine ba2 (bs (a := P ++ [.inr (0, [.ref (q + 1), .ref (q + 2), .ref (q + 3), .null, .int 0, .int 0, .int 0, .int 0, .int 0, .int 0]), .inl (1, 8, .inr (fun _ => none)), .inl (0, 50, .inl (fun _ => 0)), .inl (2, 2, .inr (fun _ => none))]) (o_putR hq (k := 0) rfl rfl) ?_)
  rw [List.length_append, hq]
  refine ba2 (bs (a := P ++ [.inr (0, [.ref (q + 1), .ref (q + 2), .ref (q + 3), .ref (q + 4), .int 0, .int 0, .int 0, .int 0, .int 0, .int 0]), .inl (1, 8, .inr (fun _ => none)), .inl (0, 50, .inl (fun _ => 0)), .inl (2, 2, .inr (fun _ => none)), .inl (0, 20, .inl (fun _ => 0))]) (o_putR hq (k := 0) rfl rfl) ?_)
  refine bs (a := (q + 1)) (o_getR hq (k := 0) rfl rfl) ?_
  rw [List.length_append, hq]
  refine ba (bs (x3_init (P := P ++ [.inr (0, [.ref (q + 1), .ref (q + 2), .ref (q + 3), .ref (q + 4), .int 0, .int 0, .int 0, .int 0, .int 0, .int 0]), .inl (1, 8, .inr (fun _ => none)), .inl (0, 50, .inl (fun _ => 0)), .inl (2, 2, .inr (fun _ => none)), .inl (0, 20, .inl (fun _ => 0))]) (q := q + 5) (by simp [hq])) ?_)
  rw [List.append_assoc]
  refine bs (a := P ++ [.inr (0, [.ref (q + 1), .ref (q + 2), .ref (q + 3), .ref (q + 4), .int 0, .int 0, .int 0, .int 0, .int 0, .int 0]), .inl (1, 8, .inr (va_up (fun _ => none) 0 (some (q + 5)))), .inl (0, 50, .inl (fun _ => 0)), .inl (2, 2, .inr (fun _ => none)), .inl (0, 20, .inl (fun _ => 0)), .inr (3, [.int 0, .int 0, .int 0, .int 0, .int 0, .int 0])]) (o_rst hq (k := 1) (j := 5) (i := 0) rfl rfl rfl rfl (by decide) (by decide)) ?_
  refine bs (a := (q + 1)) (o_getR hq (k := 0) rfl rfl) ?_
  rw [List.length_append, hq]
  refine ba (bs (x3_init (P := P ++ [.inr (0, [.ref (q + 1), .ref (q + 2), .ref (q + 3), .ref (q + 4), .int 0, .int 0, .int 0, .int 0, .int 0, .int 0]), .inl (1, 8, .inr (va_up (fun _ => none) 0 (some (q + 5)))), .inl (0, 50, .inl (fun _ => 0)), .inl (2, 2, .inr (fun _ => none)), .inl (0, 20, .inl (fun _ => 0)), .inr (3, [.int 0, .int 0, .int 0, .int 0, .int 0, .int 0])]) (q := q + 6) (by simp [hq])) ?_)
  rw [List.append_assoc]
  refine bs (a := P ++ [.inr (0, [.ref (q + 1), .ref (q + 2), .ref (q + 3), .ref (q + 4), .int 0, .int 0, .int 0, .int 0, .int 0, .int 0]), .inl (1, 8, .inr (va_up (va_up (fun _ => none) 0 (some (q + 5))) 1 (some (q + 6)))), .inl (0, 50, .inl (fun _ => 0)), .inl (2, 2, .inr (fun _ => none)), .inl (0, 20, .inl (fun _ => 0)), .inr (3, [.int 0, .int 0, .int 0, .int 0, .int 0, .int 0]), .inr (3, [.int 0, .int 0, .int 0, .int 0, .int 0, .int 0])]) (o_rst hq (k := 1) (j := 6) (i := 1) rfl rfl rfl rfl (by decide) (by decide)) ?_
  refine bs (a := (q + 1)) (o_getR hq (k := 0) rfl rfl) ?_
  rw [List.length_append, hq]
  refine ba (bs (x3_init (P := P ++ [.inr (0, [.ref (q + 1), .ref (q + 2), .ref (q + 3), .ref (q + 4), .int 0, .int 0, .int 0, .int 0, .int 0, .int 0]), .inl (1, 8, .inr (va_up (va_up (fun _ => none) 0 (some (q + 5))) 1 (some (q + 6)))), .inl (0, 50, .inl (fun _ => 0)), .inl (2, 2, .inr (fun _ => none)), .inl (0, 20, .inl (fun _ => 0)), .inr (3, [.int 0, .int 0, .int 0, .int 0, .int 0, .int 0]), .inr (3, [.int 0, .int 0, .int 0, .int 0, .int 0, .int 0])]) (q := q + 7) (by simp [hq])) ?_)
  rw [List.append_assoc]
  refine bs (a := P ++ [.inr (0, [.ref (q + 1), .ref (q + 2), .ref (q + 3), .ref (q + 4), .int 0, .int 0, .int 0, .int 0, .int 0, .int 0]), .inl (1, 8, .inr (va_up (va_up (va_up (fun _ => none) 0 (some (q + 5))) 1 (some (q + 6))) 2 (some (q + 7)))), .inl (0, 50, .inl (fun _ => 0)), .inl (2, 2, .inr (fun _ => none)), .inl (0, 20, .inl (fun _ => 0)), .inr (3, [.int 0, .int 0, .int 0, .int 0, .int 0, .int 0]), .inr (3, [.int 0, .int 0, .int 0, .int 0, .int 0, .int 0]), .inr (3, [.int 0, .int 0, .int 0, .int 0, .int 0, .int 0])]) (o_rst hq (k := 1) (j := 7) (i := 2) rfl rfl rfl rfl (by decide) (by decide)) ?_
  refine bs (a := (q + 1)) (o_getR hq (k := 0) rfl rfl) ?_
  rw [List.length_append, hq]
  refine ba (bs (x3_init (P := P ++ [.inr (0, [.ref (q + 1), .ref (q + 2), .ref (q + 3), .ref (q + 4), .int 0, .int 0, .int 0, .int 0, .int 0, .int 0]), .inl (1, 8, .inr (va_up (va_up (va_up (fun _ => none) 0 (some (q + 5))) 1 (some (q + 6))) 2 (some (q + 7)))), .inl (0, 50, .inl (fun _ => 0)), .inl (2, 2, .inr (fun _ => none)), .inl (0, 20, .inl (fun _ => 0)), .inr (3, [.int 0, .int 0, .int 0, .int 0, .int 0, .int 0]), .inr (3, [.int 0, .int 0, .int 0, .int 0, .int 0, .int 0]), .inr (3, [.int 0, .int 0, .int 0, .int 0, .int 0, .int 0])]) (q := q + 8) (by simp [hq])) ?_)
  rw [List.append_assoc]
  refine bs (a := P ++ [.inr (0, [.ref (q + 1), .ref (q + 2), .ref (q + 3), .ref (q + 4), .int 0, .int 0, .int 0, .int 0, .int 0, .int 0]), .inl (1, 8, .inr (va_up (va_up (va_up (va_up (fun _ => none) 0 (some (q + 5))) 1 (some (q + 6))) 2 (some (q + 7))) 3 (some (q + 8)))), .inl (0, 50, .inl (fun _ => 0)), .inl (2, 2, .inr (fun _ => none)), .inl (0, 20, .inl (fun _ => 0)), .inr (3, [.int 0, .int 0, .int 0, .int 0, .int 0, .int 0]), .inr (3, [.int 0, .int 0, .int 0, .int 0, .int 0, .int 0]), .inr (3, [.int 0, .int 0, .int 0, .int 0, .int 0, .int 0]), .inr (3, [.int 0, .int 0, .int 0, .int 0, .int 0, .int 0])]) (o_rst hq (k := 1) (j := 8) (i := 3) rfl rfl rfl rfl (by decide) (by decide)) ?_
  refine bs (a := (q + 1)) (o_getR hq (k := 0) rfl rfl) ?_
  rw [List.length_append, hq]
  refine ba (bs (x3_init (P := P ++ [.inr (0, [.ref (q + 1), .ref (q + 2), .ref (q + 3), .ref (q + 4), .int 0, .int 0, .int 0, .int 0, .int 0, .int 0]), .inl (1, 8, .inr (va_up (va_up (va_up (va_up (fun _ => none) 0 (some (q + 5))) 1 (some (q + 6))) 2 (some (q + 7))) 3 (some (q + 8)))), .inl (0, 50, .inl (fun _ => 0)), .inl (2, 2, .inr (fun _ => none)), .inl (0, 20, .inl (fun _ => 0)), .inr (3, [.int 0, .int 0, .int 0, .int 0, .int 0, .int 0]), .inr (3, [.int 0, .int 0, .int 0, .int 0, .int 0, .int 0]), .inr (3, [.int 0, .int 0, .int 0, .int 0, .int 0, .int 0]), .inr (3, [.int 0, .int 0, .int 0, .int 0, .int 0, .int 0])]) (q := q + 9) (by simp [hq])) ?_)
  rw [List.append_assoc]
  refine bs (a := P ++ [.inr (0, [.ref (q + 1), .ref (q + 2), .ref (q + 3), .ref (q + 4), .int 0, .int 0, .int 0, .int 0, .int 0, .int 0]), .inl (1, 8, .inr (va_up (va_up (va_up (va_up (va_up (fun _ => none) 0 (some (q + 5))) 1 (some (q + 6))) 2 (some (q + 7))) 3 (some (q + 8))) 4 (some (q + 9)))), .inl (0, 50, .inl (fun _ => 0)), .inl (2, 2, .inr (fun _ => none)), .inl (0, 20, .inl (fun _ => 0)), .inr (3, [.int 0, .int 0, .int 0, .int 0, .int 0, .int 0]), .inr (3, [.int 0, .int 0, .int 0, .int 0, .int 0, .int 0]), .inr (3, [.int 0, .int 0, .int 0, .int 0, .int 0, .int 0]), .inr (3, [.int 0, .int 0, .int 0, .int 0, .int 0, .int 0]), .inr (3, [.int 0, .int 0, .int 0, .int 0, .int 0, .int 0])]) (o_rst hq (k := 1) (j := 9) (i := 4) rfl rfl rfl rfl (by decide) (by decide)) ?_
  refine bs (a := (q + 1)) (o_getR hq (k := 0) rfl rfl) ?_
  rw [List.length_append, hq]
  refine ba (bs (x3_init (P := P ++ [.inr (0, [.ref (q + 1), .ref (q + 2), .ref (q + 3), .ref (q + 4), .int 0, .int 0, .int 0, .int 0, .int 0, .int 0]), .inl (1, 8, .inr (va_up (va_up (va_up (va_up (va_up (fun _ => none) 0 (some (q + 5))) 1 (some (q + 6))) 2 (some (q + 7))) 3 (some (q + 8))) 4 (some (q + 9)))), .inl (0, 50, .inl (fun _ => 0)), .inl (2, 2, .inr (fun _ => none)), .inl (0, 20, .inl (fun _ => 0)), .inr (3, [.int 0, .int 0, .int 0, .int 0, .int 0, .int 0]), .inr (3, [.int 0, .int 0, .int 0, .int 0, .int 0, .int 0]), .inr (3, [.int 0, .int 0, .int 0, .int 0, .int 0, .int 0]), .inr (3, [.int 0, .int 0, .int 0, .int 0, .int 0, .int 0]), .inr (3, [.int 0, .int 0, .int 0, .int 0, .int 0, .int 0])]) (q := q + 10) (by simp [hq])) ?_)
  rw [List.append_assoc]
  refine bs (a := P ++ [.inr (0, [.ref (q + 1), .ref (q + 2), .ref (q + 3), .ref (q + 4), .int 0, .int 0, .int 0, .int 0, .int 0, .int 0]), .inl (1, 8, .inr (va_up (va_up (va_up (va_up (va_up (va_up (fun _ => none) 0 (some (q + 5))) 1 (some (q + 6))) 2 (some (q + 7))) 3 (some (q + 8))) 4 (some (q + 9))) 5 (some (q + 10)))), .inl (0, 50, .inl (fun _ => 0)), .inl (2, 2, .inr (fun _ => none)), .inl (0, 20, .inl (fun _ => 0)), .inr (3, [.int 0, .int 0, .int 0, .int 0, .int 0, .int 0]), .inr (3, [.int 0, .int 0, .int 0, .int 0, .int 0, .int 0]), .inr (3, [.int 0, .int 0, .int 0, .int 0, .int 0, .int 0]), .inr (3, [.int 0, .int 0, .int 0, .int 0, .int 0, .int 0]), .inr (3, [.int 0, .int 0, .int 0, .int 0, .int 0, .int 0]), .inr (3, [.int 0, .int 0, .int 0, .int 0, .int 0, .int 0])]) (o_rst hq (k := 1) (j := 10) (i := 5) rfl rfl rfl rfl (by decide) (by decide)) ?_
  refine bs (a := (q + 1)) (o_getR hq (k := 0) rfl rfl) ?_
  rw [List.length_append, hq]
  refine ba (bs (x3_init (P := P ++ [.inr (0, [.ref (q + 1), .ref (q + 2), .ref (q + 3), .ref (q + 4), .int 0, .int 0, .int 0, .int 0, .int 0, .int 0]), .inl (1, 8, .inr (va_up (va_up (va_up (va_up (va_up (va_up (fun _ => none) 0 (some (q + 5))) 1 (some (q + 6))) 2 (some (q + 7))) 3 (some (q + 8))) 4 (some (q + 9))) 5 (some (q + 10)))), .inl (0, 50, .inl (fun _ => 0)), .inl (2, 2, .inr (fun _ => none)), .inl (0, 20, .inl (fun _ => 0)), .inr (3, [.int 0, .int 0, .int 0, .int 0, .int 0, .int 0]), .inr (3, [.int 0, .int 0, .int 0, .int 0, .int 0, .int 0]), .inr (3, [.int 0, .int 0, .int 0, .int 0, .int 0, .int 0]), .inr (3, [.int 0, .int 0, .int 0, .int 0, .int 0, .int 0]), .inr (3, [.int 0, .int 0, .int 0, .int 0, .int 0, .int 0]), .inr (3, [.int 0, .int 0, .int 0, .int 0, .int 0, .int 0])]) (q := q + 11) (by simp [hq])) ?_)
  rw [List.append_assoc]
  refine bs (a := P ++ [.inr (0, [.ref (q + 1), .ref (q + 2), .ref (q + 3), .ref (q + 4), .int 0, .int 0, .int 0, .int 0, .int 0, .int 0]), .inl (1, 8, .inr (va_up (va_up (va_up (va_up (va_up (va_up (va_up (fun _ => none) 0 (some (q + 5))) 1 (some (q + 6))) 2 (some (q + 7))) 3 (some (q + 8))) 4 (some (q + 9))) 5 (some (q + 10))) 6 (some (q + 11)))), .inl (0, 50, .inl (fun _ => 0)), .inl (2, 2, .inr (fun _ => none)), .inl (0, 20, .inl (fun _ => 0)), .inr (3, [.int 0, .int 0, .int 0, .int 0, .int 0, .int 0]), .inr (3, [.int 0, .int 0, .int 0, .int 0, .int 0, .int 0]), .inr (3, [.int 0, .int 0, .int 0, .int 0, .int 0, .int 0]), .inr (3, [.int 0, .int 0, .int 0, .int 0, .int 0, .int 0]), .inr (3, [.int 0, .int 0, .int 0, .int 0, .int 0, .int 0]), .inr (3, [.int 0, .int 0, .int 0, .int 0, .int 0, .int 0]), .inr (3, [.int 0, .int 0, .int 0, .int 0, .int 0, .int 0])]) (o_rst hq (k := 1) (j := 11) (i := 6) rfl rfl rfl rfl (by decide) (by decide)) ?_
  refine bs (a := (q + 1)) (o_getR hq (k := 0) rfl rfl) ?_
  rw [List.length_append, hq]
  refine ba (bs (x3_init (P := P ++ [.inr (0, [.ref (q + 1), .ref (q + 2), .ref (q + 3), .ref (q + 4), .int 0, .int 0, .int 0, .int 0, .int 0, .int 0]), .inl (1, 8, .inr (va_up (va_up (va_up (va_up (va_up (va_up (va_up (fun _ => none) 0 (some (q + 5))) 1 (some (q + 6))) 2 (some (q + 7))) 3 (some (q + 8))) 4 (some (q + 9))) 5 (some (q + 10))) 6 (some (q + 11)))), .inl (0, 50, .inl (fun _ => 0)), .inl (2, 2, .inr (fun _ => none)), .inl (0, 20, .inl (fun _ => 0)), .inr (3, [.int 0, .int 0, .int 0, .int 0, .int 0, .int 0]), .inr (3, [.int 0, .int 0, .int 0, .int 0, .int 0, .int 0]), .inr (3, [.int 0, .int 0, .int 0, .int 0, .int 0, .int 0]), .inr (3, [.int 0, .int 0, .int 0, .int 0, .int 0, .int 0]), .inr (3, [.int 0, .int 0, .int 0, .int 0, .int 0, .int 0]), .inr (3, [.int 0, .int 0, .int 0, .int 0, .int 0, .int 0]), .inr (3, [.int 0, .int 0, .int 0, .int 0, .int 0, .int 0])]) (q := q + 12) (by simp [hq])) ?_)
  rw [List.append_assoc]
  refine bs (a := P ++ [.inr (0, [.ref (q + 1), .ref (q + 2), .ref (q + 3), .ref (q + 4), .int 0, .int 0, .int 0, .int 0, .int 0, .int 0]), .inl (1, 8, .inr (va_up (va_up (va_up (va_up (va_up (va_up (va_up (va_up (fun _ => none) 0 (some (q + 5))) 1 (some (q + 6))) 2 (some (q + 7))) 3 (some (q + 8))) 4 (some (q + 9))) 5 (some (q + 10))) 6 (some (q + 11))) 7 (some (q + 12)))), .inl (0, 50, .inl (fun _ => 0)), .inl (2, 2, .inr (fun _ => none)), .inl (0, 20, .inl (fun _ => 0)), .inr (3, [.int 0, .int 0, .int 0, .int 0, .int 0, .int 0]), .inr (3, [.int 0, .int 0, .int 0, .int 0, .int 0, .int 0]), .inr (3, [.int 0, .int 0, .int 0, .int 0, .int 0, .int 0]), .inr (3, [.int 0, .int 0, .int 0, .int 0, .int 0, .int 0]), .inr (3, [.int 0, .int 0, .int 0, .int 0, .int 0, .int 0]), .inr (3, [.int 0, .int 0, .int 0, .int 0, .int 0, .int 0]), .inr (3, [.int 0, .int 0, .int 0, .int 0, .int 0, .int 0]), .inr (3, [.int 0, .int 0, .int 0, .int 0, .int 0, .int 0])]) (o_rst hq (k := 1) (j := 12) (i := 7) rfl rfl rfl rfl (by decide) (by decide)) ?_
  refine bs (a := (q + 3)) (o_getR hq (k := 0) rfl rfl) ?_
  rw [List.length_append, hq]
  refine ba (bs (x2_init (P := P ++ [.inr (0, [.ref (q + 1), .ref (q + 2), .ref (q + 3), .ref (q + 4), .int 0, .int 0, .int 0, .int 0, .int 0, .int 0]), .inl (1, 8, .inr (va_up (va_up (va_up (va_up (va_up (va_up (va_up (va_up (fun _ => none) 0 (some (q + 5))) 1 (some (q + 6))) 2 (some (q + 7))) 3 (some (q + 8))) 4 (some (q + 9))) 5 (some (q + 10))) 6 (some (q + 11))) 7 (some (q + 12)))), .inl (0, 50, .inl (fun _ => 0)), .inl (2, 2, .inr (fun _ => none)), .inl (0, 20, .inl (fun _ => 0)), .inr (3, [.int 0, .int 0, .int 0, .int 0, .int 0, .int 0]), .inr (3, [.int 0, .int 0, .int 0, .int 0, .int 0, .int 0]), .inr (3, [.int 0, .int 0, .int 0, .int 0, .int 0, .int 0]), .inr (3, [.int 0, .int 0, .int 0, .int 0, .int 0, .int 0]), .inr (3, [.int 0, .int 0, .int 0, .int 0, .int 0, .int 0]), .inr (3, [.int 0, .int 0, .int 0, .int 0, .int 0, .int 0]), .inr (3, [.int 0, .int 0, .int 0, .int 0, .int 0, .int 0]), .inr (3, [.int 0, .int 0, .int 0, .int 0, .int 0, .int 0])]) (q := q + 13) (by simp [hq])) ?_)
  rw [List.append_assoc]
  refine bs (a := P ++ [.inr (0, [.ref (q + 1), .ref (q + 2), .ref (q + 3), .ref (q + 4), .int 0, .int 0, .int 0, .int 0, .int 0, .int 0]), .inl (1, 8, .inr (va_up (va_up (va_up (va_up (va_up (va_up (va_up (va_up (fun _ => none) 0 (some (q + 5))) 1 (some (q + 6))) 2 (some (q + 7))) 3 (some (q + 8))) 4 (some (q + 9))) 5 (some (q + 10))) 6 (some (q + 11))) 7 (some (q + 12)))), .inl (0, 50, .inl (fun _ => 0)), .inl (2, 2, .inr (va_up (fun _ => none) 0 (some (q + 13)))), .inl (0, 20, .inl (fun _ => 0)), .inr (3, [.int 0, .int 0, .int 0, .int 0, .int 0, .int 0]), .inr (3, [.int 0, .int 0, .int 0, .int 0, .int 0, .int 0]), .inr (3, [.int 0, .int 0, .int 0, .int 0, .int 0, .int 0]), .inr (3, [.int 0, .int 0, .int 0, .int 0, .int 0, .int 0]), .inr (3, [.int 0, .int 0, .int 0, .int 0, .int 0, .int 0]), .inr (3, [.int 0, .int 0, .int 0, .int 0, .int 0, .int 0]), .inr (3, [.int 0, .int 0, .int 0, .int 0, .int 0, .int 0]), .inr (3, [.int 0, .int 0, .int 0, .int 0, .int 0, .int 0]), .inr (2, [.ref (q + 13 + 1), .ref (q + 13 + 2), .int 0]), .inl (0, 50, .inl (fun _ => 0)), .inl (0, 50, .inl (fun _ => 0))]) (o_rst hq (k := 3) (j := 13) (i := 0) rfl rfl rfl rfl (by decide) (by decide)) ?_
  refine bs (a := (q + 3)) (o_getR hq (k := 0) rfl rfl) ?_
  rw [List.length_append, hq]
  refine ba (bs (x2_init (P := P ++ [.inr (0, [.ref (q + 1), .ref (q + 2), .ref (q + 3), .ref (q + 4), .int 0, .int 0, .int 0, .int 0, .int 0, .int 0]), .inl (1, 8, .inr (va_up (va_up (va_up (va_up (va_up (va_up (va_up (va_up (fun _ => none) 0 (some (q + 5))) 1 (some (q + 6))) 2 (some (q + 7))) 3 (some (q + 8))) 4 (some (q + 9))) 5 (some (q + 10))) 6 (some (q + 11))) 7 (some (q + 12)))), .inl (0, 50, .inl (fun _ => 0)), .inl (2, 2, .inr (va_up (fun _ => none) 0 (some (q + 13)))), .inl (0, 20, .inl (fun _ => 0)), .inr (3, [.int 0, .int 0, .int 0, .int 0, .int 0, .int 0]), .inr (3, [.int 0, .int 0, .int 0, .int 0, .int 0, .int 0]), .inr (3, [.int 0, .int 0, .int 0, .int 0, .int 0, .int 0]), .inr (3, [.int 0, .int 0, .int 0, .int 0, .int 0, .int 0]), .inr (3, [.int 0, .int 0, .int 0, .int 0, .int 0, .int 0]), .inr (3, [.int 0, .int 0, .int 0, .int 0, .int 0, .int 0]), .inr (3, [.int 0, .int 0, .int 0, .int 0, .int 0, .int 0]), .inr (3, [.int 0, .int 0, .int 0, .int 0, .int 0, .int 0]), .inr (2, [.ref (q + 13 + 1), .ref (q + 13 + 2), .int 0]), .inl (0, 50, .inl (fun _ => 0)), .inl (0, 50, .inl (fun _ => 0))]) (q := q + 16) (by simp [hq])) ?_)
  rw [List.append_assoc]
  refine bs (a := P ++ [.inr (0, [.ref (q + 1), .ref (q + 2), .ref (q + 3), .ref (q + 4), .int 0, .int 0, .int 0, .int 0, .int 0, .int 0]), .inl (1, 8, .inr (va_up (va_up (va_up (va_up (va_up (va_up (va_up (va_up (fun _ => none) 0 (some (q + 5))) 1 (some (q + 6))) 2 (some (q + 7))) 3 (some (q + 8))) 4 (some (q + 9))) 5 (some (q + 10))) 6 (some (q + 11))) 7 (some (q + 12)))), .inl (0, 50, .inl (fun _ => 0)), .inl (2, 2, .inr (va_up (va_up (fun _ => none) 0 (some (q + 13))) 1 (some (q + 16)))), .inl (0, 20, .inl (fun _ => 0)), .inr (3, [.int 0, .int 0, .int 0, .int 0, .int 0, .int 0]), .inr (3, [.int 0, .int 0, .int 0, .int 0, .int 0, .int 0]), .inr (3, [.int 0, .int 0, .int 0, .int 0, .int 0, .int 0]), .inr (3, [.int 0, .int 0, .int 0, .int 0, .int 0, .int 0]), .inr (3, [.int 0, .int 0, .int 0, .int 0, .int 0, .int 0]), .inr (3, [.int 0, .int 0, .int 0, .int 0, .int 0, .int 0]), .inr (3, [.int 0, .int 0, .int 0, .int 0, .int 0, .int 0]), .inr (3, [.int 0, .int 0, .int 0, .int 0, .int 0, .int 0]), .inr (2, [.ref (q + 13 + 1), .ref (q + 13 + 2), .int 0]), .inl (0, 50, .inl (fun _ => 0)), .inl (0, 50, .inl (fun _ => 0)), .inr (2, [.ref (q + 16 + 1), .ref (q + 16 + 2), .int 0]), .inl (0, 50, .inl (fun _ => 0)), .inl (0, 50, .inl (fun _ => 0))]) (o_rst hq (k := 3) (j := 16) (i := 1) rfl rfl rfl rfl (by decide) (by decide)) ?_
  refine bs (a := P ++ [.inr (0, [.ref (q + 1), .ref (q + 2), .ref (q + 3), .ref (q + 4), .int 0, .int 0, .int 0, .int 0, .int 0, .int 0]), .inl (1, 8, .inr (va_up (va_up (va_up (va_up (va_up (va_up (va_up (va_up (fun _ => none) 0 (some (q + 5))) 1 (some (q + 6))) 2 (some (q + 7))) 3 (some (q + 8))) 4 (some (q + 9))) 5 (some (q + 10))) 6 (some (q + 11))) 7 (some (q + 12)))), .inl (0, 50, .inl (fun _ => 0)), .inl (2, 2, .inr (va_up (va_up (fun _ => none) 0 (some (q + 13))) 1 (some (q + 16)))), .inl (0, 20, .inl (fun _ => 0)), .inr (3, [.int 0, .int 0, .int 0, .int 0, .int 0, .int 0]), .inr (3, [.int 0, .int 0, .int 0, .int 0, .int 0, .int 0]), .inr (3, [.int 0, .int 0, .int 0, .int 0, .int 0, .int 0]), .inr (3, [.int 0, .int 0, .int 0, .int 0, .int 0, .int 0]), .inr (3, [.int 0, .int 0, .int 0, .int 0, .int 0, .int 0]), .inr (3, [.int 0, .int 0, .int 0, .int 0, .int 0, .int 0]), .inr (3, [.int 0, .int 0, .int 0, .int 0, .int 0, .int 0]), .inr (3, [.int 0, .int 0, .int 0, .int 0, .int 0, .int 0]), .inr (2, [.ref (q + 13 + 1), .ref (q + 13 + 2), .int 0]), .inl (0, 50, .inl (fun _ => 0)), .inl (0, 50, .inl (fun _ => 0)), .inr (2, [.ref (q + 16 + 1), .ref (q + 16 + 2), .int 0]), .inl (0, 50, .inl (fun _ => 0)), .inl (0, 50, .inl (fun _ => 0))]) (o_putI hq (k := 0) rfl rfl) ?_
  refine bs (a := P ++ [.inr (0, [.ref (q + 1), .ref (q + 2), .ref (q + 3), .ref (q + 4), .int 0, .int 0, .int 0, .int 0, .int 0, .int 0]), .inl (1, 8, .inr (va_up (va_up (va_up (va_up (va_up (va_up (va_up (va_up (fun _ => none) 0 (some (q + 5))) 1 (some (q + 6))) 2 (some (q + 7))) 3 (some (q + 8))) 4 (some (q + 9))) 5 (some (q + 10))) 6 (some (q + 11))) 7 (some (q + 12)))), .inl (0, 50, .inl (fun _ => 0)), .inl (2, 2, .inr (va_up (va_up (fun _ => none) 0 (some (q + 13))) 1 (some (q + 16)))), .inl (0, 20, .inl (fun _ => 0)), .inr (3, [.int 0, .int 0, .int 0, .int 0, .int 0, .int 0]), .inr (3, [.int 0, .int 0, .int 0, .int 0, .int 0, .int 0]), .inr (3, [.int 0, .int 0, .int 0, .int 0, .int 0, .int 0]), .inr (3, [.int 0, .int 0, .int 0, .int 0, .int 0, .int 0]), .inr (3, [.int 0, .int 0, .int 0, .int 0, .int 0, .int 0]), .inr (3, [.int 0, .int 0, .int 0, .int 0, .int 0, .int 0]), .inr (3, [.int 0, .int 0, .int 0, .int 0, .int 0, .int 0]), .inr (3, [.int 0, .int 0, .int 0, .int 0, .int 0, .int 0]), .inr (2, [.ref (q + 13 + 1), .ref (q + 13 + 2), .int 0]), .inl (0, 50, .inl (fun _ => 0)), .inl (0, 50, .inl (fun _ => 0)), .inr (2, [.ref (q + 16 + 1), .ref (q + 16 + 2), .int 0]), .inl (0, 50, .inl (fun _ => 0)), .inl (0, 50, .inl (fun _ => 0))]) (o_putI hq (k := 0) rfl rfl) ?_
  refine bs (a := P ++ [.inr (0, [.ref (q + 1), .ref (q + 2), .ref (q + 3), .ref (q + 4), .int 0, .int 0, .int 0, .int 0, .int 0, .int 0]), .inl (1, 8, .inr (va_up (va_up (va_up (va_up (va_up (va_up (va_up (va_up (fun _ => none) 0 (some (q + 5))) 1 (some (q + 6))) 2 (some (q + 7))) 3 (some (q + 8))) 4 (some (q + 9))) 5 (some (q + 10))) 6 (some (q + 11))) 7 (some (q + 12)))), .inl (0, 50, .inl (fun _ => 0)), .inl (2, 2, .inr (va_up (va_up (fun _ => none) 0 (some (q + 13))) 1 (some (q + 16)))), .inl (0, 20, .inl (fun _ => 0)), .inr (3, [.int 0, .int 0, .int 0, .int 0, .int 0, .int 0]), .inr (3, [.int 0, .int 0, .int 0, .int 0, .int 0, .int 0]), .inr (3, [.int 0, .int 0, .int 0, .int 0, .int 0, .int 0]), .inr (3, [.int 0, .int 0, .int 0, .int 0, .int 0, .int 0]), .inr (3, [.int 0, .int 0, .int 0, .int 0, .int 0, .int 0]), .inr (3, [.int 0, .int 0, .int 0, .int 0, .int 0, .int 0]), .inr (3, [.int 0, .int 0, .int 0, .int 0, .int 0, .int 0]), .inr (3, [.int 0, .int 0, .int 0, .int 0, .int 0, .int 0]), .inr (2, [.ref (q + 13 + 1), .ref (q + 13 + 2), .int 0]), .inl (0, 50, .inl (fun _ => 0)), .inl (0, 50, .inl (fun _ => 0)), .inr (2, [.ref (q + 16 + 1), .ref (q + 16 + 2), .int 0]), .inl (0, 50, .inl (fun _ => 0)), .inl (0, 50, .inl (fun _ => 0))]) (o_putI hq (k := 0) rfl rfl) ?_
  refine bs (a := P ++ [.inr (0, [.ref (q + 1), .ref (q + 2), .ref (q + 3), .ref (q + 4), .int 0, .int 0, .int 0, .int 0, .int 0, .int 0]), .inl (1, 8, .inr (va_up (va_up (va_up (va_up (va_up (va_up (va_up (va_up (fun _ => none) 0 (some (q + 5))) 1 (some (q + 6))) 2 (some (q + 7))) 3 (some (q + 8))) 4 (some (q + 9))) 5 (some (q + 10))) 6 (some (q + 11))) 7 (some (q + 12)))), .inl (0, 50, .inl (fun _ => 0)), .inl (2, 2, .inr (va_up (va_up (fun _ => none) 0 (some (q + 13))) 1 (some (q + 16)))), .inl (0, 20, .inl (fun _ => 0)), .inr (3, [.int 0, .int 0, .int 0, .int 0, .int 0, .int 0]), .inr (3, [.int 0, .int 0, .int 0, .int 0, .int 0, .int 0]), .inr (3, [.int 0, .int 0, .int 0, .int 0, .int 0, .int 0]), .inr (3, [.int 0, .int 0, .int 0, .int 0, .int 0, .int 0]), .inr (3, [.int 0, .int 0, .int 0, .int 0, .int 0, .int 0]), .inr (3, [.int 0, .int 0, .int 0, .int 0, .int 0, .int 0]), .inr (3, [.int 0, .int 0, .int 0, .int 0, .int 0, .int 0]), .inr (3, [.int 0, .int 0, .int 0, .int 0, .int 0, .int 0]), .inr (2, [.ref (q + 13 + 1), .ref (q + 13 + 2), .int 0]), .inl (0, 50, .inl (fun _ => 0)), .inl (0, 50, .inl (fun _ => 0)), .inr (2, [.ref (q + 16 + 1), .ref (q + 16 + 2), .int 0]), .inl (0, 50, .inl (fun _ => 0)), .inl (0, 50, .inl (fun _ => 0))]) (o_putI hq (k := 0) rfl rfl) ?_
  refine bs (a := P ++ [.inr (0, [.ref (q + 1), .ref (q + 2), .ref (q + 3), .ref (q + 4), .int 0, .int 0, .int 0, .int 0, .int 0, .int 0]), .inl (1, 8, .inr (va_up (va_up (va_up (va_up (va_up (va_up (va_up (va_up (fun _ => none) 0 (some (q + 5))) 1 (some (q + 6))) 2 (some (q + 7))) 3 (some (q + 8))) 4 (some (q + 9))) 5 (some (q + 10))) 6 (some (q + 11))) 7 (some (q + 12)))), .inl (0, 50, .inl (fun _ => 0)), .inl (2, 2, .inr (va_up (va_up (fun _ => none) 0 (some (q + 13))) 1 (some (q + 16)))), .inl (0, 20, .inl (fun _ => 0)), .inr (3, [.int 0, .int 0, .int 0, .int 0, .int 0, .int 0]), .inr (3, [.int 0, .int 0, .int 0, .int 0, .int 0, .int 0]), .inr (3, [.int 0, .int 0, .int 0, .int 0, .int 0, .int 0]), .inr (3, [.int 0, .int 0, .int 0, .int 0, .int 0, .int 0]), .inr (3, [.int 0, .int 0, .int 0, .int 0, .int 0, .int 0]), .inr (3, [.int 0, .int 0, .int 0, .int 0, .int 0, .int 0]), .inr (3, [.int 0, .int 0, .int 0, .int 0, .int 0, .int 0]), .inr (3, [.int 0, .int 0, .int 0, .int 0, .int 0, .int 0]), .inr (2, [.ref (q + 13 + 1), .ref (q + 13 + 2), .int 0]), .inl (0, 50, .inl (fun _ => 0)), .inl (0, 50, .inl (fun _ => 0)), .inr (2, [.ref (q + 16 + 1), .ref (q + 16 + 2), .int 0]), .inl (0, 50, .inl (fun _ => 0)), .inl (0, 50, .inl (fun _ => 0))]) (o_putI hq (k := 0) rfl rfl) ?_
  refine bs (a := P ++ [.inr (0, [.ref (q + 1), .ref (q + 2), .ref (q + 3), .ref (q + 4), .int 0, .int 0, .int 0, .int 0, .int 0, .int 1]), .inl (1, 8, .inr (va_up (va_up (va_up (va_up (va_up (va_up (va_up (va_up (fun _ => none) 0 (some (q + 5))) 1 (some (q + 6))) 2 (some (q + 7))) 3 (some (q + 8))) 4 (some (q + 9))) 5 (some (q + 10))) 6 (some (q + 11))) 7 (some (q + 12)))), .inl (0, 50, .inl (fun _ => 0)), .inl (2, 2, .inr (va_up (va_up (fun _ => none) 0 (some (q + 13))) 1 (some (q + 16)))), .inl (0, 20, .inl (fun _ => 0)), .inr (3, [.int 0, .int 0, .int 0, .int 0, .int 0, .int 0]), .inr (3, [.int 0, .int 0, .int 0, .int 0, .int 0, .int 0]), .inr (3, [.int 0, .int 0, .int 0, .int 0, .int 0, .int 0]), .inr (3, [.int 0, .int 0, .int 0, .int 0, .int 0, .int 0]), .inr (3, [.int 0, .int 0, .int 0, .int 0, .int 0, .int 0]), .inr (3, [.int 0, .int 0, .int 0, .int 0, .int 0, .int 0]), .inr (3, [.int 0, .int 0, .int 0, .int 0, .int 0, .int 0]), .inr (3, [.int 0, .int 0, .int 0, .int 0, .int 0, .int 0]), .inr (2, [.ref (q + 13 + 1), .ref (q + 13 + 2), .int 0]), .inl (0, 50, .inl (fun _ => 0)), .inl (0, 50, .inl (fun _ => 0)), .inr (2, [.ref (q + 16 + 1), .ref (q + 16 + 2), .int 0]), .inl (0, 50, .inl (fun _ => 0)), .inl (0, 50, .inl (fun _ => 0))]) (o_putI hq (k := 0) rfl rfl) ?_
  rfl
set_option maxHeartbeats 4000000 in
set_option maxRecDepth 100000 in
theorem x6_init {P : ab_W} (hq : P.length = 11) : ∃ f g h, sX6_init 11 (P ++ [.inr (6, [.null, .null, .null, .null, .null])]) = some (pW P f g h) ∧ RT f g := by
  obtain ⟨f, g, h, e1, e2⟩ := p_init_50 hq 128 0 871 (fun _ => 0) (fun _ => 0) (fun _ => 0) rfl (fun i hi => absurd hi (by omega))
  refine ⟨f, g, h, ?_, e2⟩
  rw [sX6_init]
  refine bi (o_is hq (k := 0) rfl rfl) ?_
  rw [List.length_append, hq]
  refine ba2 (bs (a := P ++ [.inr (6, [.ref 12, .null, .null, .null, .null]), .inl (0, 128, .inl (fun _ => 0))]) (o_putR hq (k := 0) rfl rfl) ?_)
  rw [List.length_append, hq]
  refine ba2 (bs (a := P ++ [.inr (6, [.ref 12, .ref 13, .null, .null, .null]), .inl (0, 128, .inl (fun _ => 0)), .inl (0, 128, .inl (fun _ => 0))]) (o_putR hq (k := 0) rfl rfl) ?_)
  rw [List.length_append, hq]
  refine ba2 (bs (a := P ++ [.inr (6, [.ref 12, .ref 13, .ref 14, .null, .null]), .inl (0, 128, .inl (fun _ => 0)), .inl (0, 128, .inl (fun _ => 0)), .inl (0, 16, .inl (fun _ => 0))]) (o_putR hq (k := 0) rfl rfl) ?_)
  rw [List.length_append, hq]
  refine ba2 (bs (a := P ++ [.inr (6, [.ref 12, .ref 13, .ref 14, .ref 15, .null]), .inl (0, 128, .inl (fun _ => 0)), .inl (0, 128, .inl (fun _ => 0)), .inl (0, 16, .inl (fun _ => 0)), .inl (0, 128, .inl (fun _ => 0))]) (o_putR hq (k := 0) rfl rfl) ?_)
  rw [List.length_append, hq]
  refine ba2 (bs (a := P ++ [.inr (6, [.ref 12, .ref 13, .ref 14, .ref 15, .ref 16]), .inl (0, 128, .inl (fun _ => 0)), .inl (0, 128, .inl (fun _ => 0)), .inl (0, 16, .inl (fun _ => 0)), .inl (0, 128, .inl (fun _ => 0)), .inl (0, 128, .inl (fun _ => 0))]) (o_putR hq (k := 0) rfl rfl) ?_)
  exact e1
def sI : Nat → Int32 := fun i => if i = 1 ∨ i = 201 then 1 else 0
def sA (f g h : Nat → Int32) : Nat → Nat → Int32 := fun k => if k = 12 then f else if k = 13 then g else if k = 14 then h else fun _ => 0
set_option maxHeartbeats 4000000 in
set_option maxRecDepth 100000 in
theorem c_init : ∃ f g h, sX9_init 0 wc_new = some (cW sI (sA f g h) 62) ∧ RT f g := by
  obtain ⟨f, g, h, e1, e2⟩ := x6_init (P := [.inr (9, [.ref 1, .ref 2, .null, .null, .null, .null, .null, .null, .int 0]), .inl (0, 6, .inl (fun _ => 0)), .inl (3, 4, .inr (va_up (va_up (va_up (va_up (fun _ => none) 0 (some 3)) 1 (some 5)) 2 (some 7)) 3 (some 9))), .inr (5, [.ref 4, .int 0, .int 0]), .inl (0, 40, .inl (fun _ => 0)), .inr (5, [.ref 6, .int 0, .int 0]), .inl (0, 40, .inl (fun _ => 0)), .inr (5, [.ref 8, .int 0, .int 0]), .inl (0, 40, .inl (fun _ => 0)), .inr (5, [.ref 10, .int 0, .int 0]), .inl (0, 40, .inl (fun _ => 0))]) rfl
  refine ⟨f, g, h, ?_, e2⟩
  rw [sX9_init]
  refine bi rfl ?_
  refine ba (bs (a := [.inr (9, [.ref 1, .null, .null, .null, .null, .null, .null, .null, .int 0]), .inl (0, 6, .inl (fun _ => 0))]) rfl ?_)
  refine ba (bs (a := [.inr (9, [.ref 1, .ref 2, .null, .null, .null, .null, .null, .null, .int 0]), .inl (0, 6, .inl (fun _ => 0)), .inl (3, 4, .inr (fun _ => none))]) rfl ?_)
  refine bs (a := 2) rfl (ba (bs (x5_init (P := [.inr (9, [.ref 1, .ref 2, .null, .null, .null, .null, .null, .null, .int 0]), .inl (0, 6, .inl (fun _ => 0)), .inl (3, 4, .inr (fun _ => none))]) (q := 3) rfl) ?_))
  refine bs (a := [.inr (9, [.ref 1, .ref 2, .null, .null, .null, .null, .null, .null, .int 0]), .inl (0, 6, .inl (fun _ => 0)), .inl (3, 4, .inr (va_up (fun _ => none) 0 (some 3))), .inr (5, [.ref 4, .int 0, .int 0]), .inl (0, 40, .inl (fun _ => 0))]) rfl ?_
  refine bs (a := 2) rfl (ba (bs (x5_init (P := [.inr (9, [.ref 1, .ref 2, .null, .null, .null, .null, .null, .null, .int 0]), .inl (0, 6, .inl (fun _ => 0)), .inl (3, 4, .inr (va_up (fun _ => none) 0 (some 3))), .inr (5, [.ref 4, .int 0, .int 0]), .inl (0, 40, .inl (fun _ => 0))]) (q := 5) rfl) ?_))
  refine bs (a := [.inr (9, [.ref 1, .ref 2, .null, .null, .null, .null, .null, .null, .int 0]), .inl (0, 6, .inl (fun _ => 0)), .inl (3, 4, .inr (va_up (va_up (fun _ => none) 0 (some 3)) 1 (some 5))), .inr (5, [.ref 4, .int 0, .int 0]), .inl (0, 40, .inl (fun _ => 0)), .inr (5, [.ref 6, .int 0, .int 0]), .inl (0, 40, .inl (fun _ => 0))]) rfl ?_
  refine bs (a := 2) rfl (ba (bs (x5_init (P := [.inr (9, [.ref 1, .ref 2, .null, .null, .null, .null, .null, .null, .int 0]), .inl (0, 6, .inl (fun _ => 0)), .inl (3, 4, .inr (va_up (va_up (fun _ => none) 0 (some 3)) 1 (some 5))), .inr (5, [.ref 4, .int 0, .int 0]), .inl (0, 40, .inl (fun _ => 0)), .inr (5, [.ref 6, .int 0, .int 0]), .inl (0, 40, .inl (fun _ => 0))]) (q := 7) rfl) ?_))
  refine bs (a := [.inr (9, [.ref 1, .ref 2, .null, .null, .null, .null, .null, .null, .int 0]), .inl (0, 6, .inl (fun _ => 0)), .inl (3, 4, .inr (va_up (va_up (va_up (fun _ => none) 0 (some 3)) 1 (some 5)) 2 (some 7))), .inr (5, [.ref 4, .int 0, .int 0]), .inl (0, 40, .inl (fun _ => 0)), .inr (5, [.ref 6, .int 0, .int 0]), .inl (0, 40, .inl (fun _ => 0)), .inr (5, [.ref 8, .int 0, .int 0]), .inl (0, 40, .inl (fun _ => 0))]) rfl ?_
  refine bs (a := 2) rfl (ba (bs (x5_init (P := [.inr (9, [.ref 1, .ref 2, .null, .null, .null, .null, .null, .null, .int 0]), .inl (0, 6, .inl (fun _ => 0)), .inl (3, 4, .inr (va_up (va_up (va_up (fun _ => none) 0 (some 3)) 1 (some 5)) 2 (some 7))), .inr (5, [.ref 4, .int 0, .int 0]), .inl (0, 40, .inl (fun _ => 0)), .inr (5, [.ref 6, .int 0, .int 0]), .inl (0, 40, .inl (fun _ => 0)), .inr (5, [.ref 8, .int 0, .int 0]), .inl (0, 40, .inl (fun _ => 0))]) (q := 9) rfl) ?_))
  refine bs (a := [.inr (9, [.ref 1, .ref 2, .null, .null, .null, .null, .null, .null, .int 0]), .inl (0, 6, .inl (fun _ => 0)), .inl (3, 4, .inr (va_up (va_up (va_up (va_up (fun _ => none) 0 (some 3)) 1 (some 5)) 2 (some 7)) 3 (some 9))), .inr (5, [.ref 4, .int 0, .int 0]), .inl (0, 40, .inl (fun _ => 0)), .inr (5, [.ref 6, .int 0, .int 0]), .inl (0, 40, .inl (fun _ => 0)), .inr (5, [.ref 8, .int 0, .int 0]), .inl (0, 40, .inl (fun _ => 0)), .inr (5, [.ref 10, .int 0, .int 0]), .inl (0, 40, .inl (fun _ => 0))]) rfl ?_
  refine ba (bs (a := (.inr (9, [.ref 1, .ref 2, .null, .null, .null, .null, .null, .null, .int 0]) :: [.inl (0, 6, .inl (fun _ => 0)), .inl (3, 4, .inr (va_up (va_up (va_up (va_up (fun _ => none) 0 (some 3)) 1 (some 5)) 2 (some 7)) 3 (some 9))), .inr (5, [.ref 4, .int 0, .int 0]), .inl (0, 40, .inl (fun _ => 0)), .inr (5, [.ref 6, .int 0, .int 0]), .inl (0, 40, .inl (fun _ => 0)), .inr (5, [.ref 8, .int 0, .int 0]), .inl (0, 40, .inl (fun _ => 0)), .inr (5, [.ref 10, .int 0, .int 0]), .inl (0, 40, .inl (fun _ => 0))]) ++ [.inr (6, [.ref 12, .ref 13, .ref 14, .ref 15, .ref 16]), .inl (0, 128, .inl f), .inl (0, 128, .inl g), .inl (0, 16, .inl h), .inl (0, 128, .inl (fun _ => 0)), .inl (0, 128, .inl (fun _ => 0))]) e1 ?_)
  refine bs (a := .inr (9, [.ref 1, .ref 2, .ref 11, .null, .null, .null, .null, .null, .int 0]) :: ([.inl (0, 6, .inl (fun _ => 0)), .inl (3, 4, .inr (va_up (va_up (va_up (va_up (fun _ => none) 0 (some 3)) 1 (some 5)) 2 (some 7)) 3 (some 9))), .inr (5, [.ref 4, .int 0, .int 0]), .inl (0, 40, .inl (fun _ => 0)), .inr (5, [.ref 6, .int 0, .int 0]), .inl (0, 40, .inl (fun _ => 0)), .inr (5, [.ref 8, .int 0, .int 0]), .inl (0, 40, .inl (fun _ => 0)), .inr (5, [.ref 10, .int 0, .int 0]), .inl (0, 40, .inl (fun _ => 0))] ++ [.inr (6, [.ref 12, .ref 13, .ref 14, .ref 15, .ref 16]), .inl (0, 128, .inl f), .inl (0, 128, .inl g), .inl (0, 16, .inl h), .inl (0, 128, .inl (fun _ => 0)), .inl (0, 128, .inl (fun _ => 0))])) rfl ?_
  generalize hQ0 : ([.inl (0, 6, .inl (fun _ => 0)), .inl (3, 4, .inr (va_up (va_up (va_up (va_up (fun _ => none) 0 (some 3)) 1 (some 5)) 2 (some 7)) 3 (some 9))), .inr (5, [.ref 4, .int 0, .int 0]), .inl (0, 40, .inl (fun _ => 0)), .inr (5, [.ref 6, .int 0, .int 0]), .inl (0, 40, .inl (fun _ => 0)), .inr (5, [.ref 8, .int 0, .int 0]), .inl (0, 40, .inl (fun _ => 0)), .inr (5, [.ref 10, .int 0, .int 0]), .inl (0, 40, .inl (fun _ => 0))] ++ [.inr (6, [.ref 12, .ref 13, .ref 14, .ref 15, .ref 16]), .inl (0, 128, .inl f), .inl (0, 128, .inl g), .inl (0, 16, .inl h), .inl (0, 128, .inl (fun _ => 0)), .inl (0, 128, .inl (fun _ => 0))] : ab_W) = Q0
  have l0 : Q0.length = 16 := by rw [← hQ0]; rfl
  rw [show List.length (.inr (9, [.ref 1, .ref 2, .ref 11, .null, .null, .null, .null, .null, .int 0]) :: Q0) = 17 from by rw [List.length_cons, l0]]
  refine ba (bs (x0_init (P := .inr (9, [.ref 1, .ref 2, .ref 11, .null, .null, .null, .null, .null, .int 0]) :: Q0) (q := 17) (by rw [List.length_cons, l0])) ?_)
  refine bs (a := .inr (9, [.ref 1, .ref 2, .ref 11, .ref 17, .null, .null, .null, .null, .int 0]) :: (Q0 ++ _)) rfl ?_
  generalize hQ1 : (Q0 ++ _ : ab_W) = Q1
  have l1 : Q1.length = 35 := by rw [← hQ1, List.length_append, l0]; rfl
  rw [show List.length (.inr (9, [.ref 1, .ref 2, .ref 11, .ref 17, .null, .null, .null, .null, .int 0]) :: Q1) = 36 from by rw [List.length_cons, l1]]
  refine ba (bs (x0_init (P := .inr (9, [.ref 1, .ref 2, .ref 11, .ref 17, .null, .null, .null, .null, .int 0]) :: Q1) (q := 36) (by rw [List.length_cons, l1])) ?_)
  refine bs (a := .inr (9, [.ref 1, .ref 2, .ref 11, .ref 17, .ref 36, .null, .null, .null, .int 0]) :: (Q1 ++ _)) rfl ?_
  generalize hQ2 : (Q1 ++ _ : ab_W) = Q2
  have l2 : Q2.length = 54 := by rw [← hQ2, List.length_append, l1]; rfl
  rw [show List.length (.inr (9, [.ref 1, .ref 2, .ref 11, .ref 17, .ref 36, .null, .null, .null, .int 0]) :: Q2) = 55 from by rw [List.length_cons, l2]]
  refine ba (bs (x7_init (P := .inr (9, [.ref 1, .ref 2, .ref 11, .ref 17, .ref 36, .null, .null, .null, .int 0]) :: Q2) (q := 55) (by rw [List.length_cons, l2])) ?_)
  refine bs (a := .inr (9, [.ref 1, .ref 2, .ref 11, .ref 17, .ref 36, .ref 55, .null, .null, .int 0]) :: (Q2 ++ _)) rfl ?_
  generalize hQ3 : (Q2 ++ _ : ab_W) = Q3
  have l3 : Q3.length = 57 := by rw [← hQ3, List.length_append, l2]; rfl
  rw [show List.length (.inr (9, [.ref 1, .ref 2, .ref 11, .ref 17, .ref 36, .ref 55, .null, .null, .int 0]) :: Q3) = 58 from by rw [List.length_cons, l3]]
  refine ba (bs (x4_init (P := .inr (9, [.ref 1, .ref 2, .ref 11, .ref 17, .ref 36, .ref 55, .null, .null, .int 0]) :: Q3) (q := 58) (by rw [List.length_cons, l3])) ?_)
  refine bs (a := .inr (9, [.ref 1, .ref 2, .ref 11, .ref 17, .ref 36, .ref 55, .ref 58, .null, .int 0]) :: (Q3 ++ _)) rfl ?_
  generalize hQ4 : (Q3 ++ _ : ab_W) = Q4
  have l4 : Q4.length = 62 := by rw [← hQ4, List.length_append, l3]; rfl
  rw [show List.length (.inr (9, [.ref 1, .ref 2, .ref 11, .ref 17, .ref 36, .ref 55, .ref 58, .null, .int 0]) :: Q4) = 63 from by rw [List.length_cons, l4]]
  refine ba (bs (x8_init (P := .inr (9, [.ref 1, .ref 2, .ref 11, .ref 17, .ref 36, .ref 55, .ref 58, .null, .int 0]) :: Q4) (q := 63) (by rw [List.length_cons, l4])) ?_)
  refine bs (a := .inr (9, [.ref 1, .ref 2, .ref 11, .ref 17, .ref 36, .ref 55, .ref 58, .ref 63, .int 0]) :: (Q4 ++ _)) rfl ?_
  generalize hQ5 : (Q4 ++ _ : ab_W) = Q5
  have l5 : Q5.length = 64 := by rw [← hQ5, List.length_append, l4]; rfl
  refine bs (a := .inr (9, [.ref 1, .ref 2, .ref 11, .ref 17, .ref 36, .ref 55, .ref 58, .ref 63, .int 0]) :: Q5) rfl ?_
  rw [← hQ5, ← hQ4, ← hQ3, ← hQ2, ← hQ1, ← hQ0, s_2]
  rfl
def sJ : Nat → Int32 := fun _ => 0
def sB : Nat → Nat → Int32 := fun k => if k = 1 then upd (upd (upd (fun _ => 0) 1 1) 5 (-1)) 6 (-1) else fun _ => 0
set_option maxHeartbeats 4000000 in
set_option maxRecDepth 100000 in
theorem m_init : sX10_init 0 wm_new = some (mW sJ sB) := by
  rw [sX10_init]
  refine bi rfl ?_
  refine ba (bs (a := [.inr (10, [.ref 1, .null, .null, .null, .int 0, .int 0, .null, .int 0, .int 0, .int 0, .int 0, .int 0, .int 0, .int 0, .int 0, .null, .null, .null, .null, .null, .null, .null, .int 0, .int 0, .int 0, .int 0]), .inl (0, 226, .inl (fun _ => 0))]) rfl ?_)
  refine ba (bs (a := [.inr (10, [.ref 1, .ref 2, .null, .null, .int 0, .int 0, .null, .int 0, .int 0, .int 0, .int 0, .int 0, .int 0, .int 0, .int 0, .null, .null, .null, .null, .null, .null, .null, .int 0, .int 0, .int 0, .int 0]), .inl (0, 226, .inl (fun _ => 0)), .inl (0, 226, .inl (fun _ => 0))]) rfl ?_)
  refine ba (bs (a := [.inr (10, [.ref 1, .ref 2, .ref 3, .null, .int 0, .int 0, .null, .int 0, .int 0, .int 0, .int 0, .int 0, .int 0, .int 0, .int 0, .null, .null, .null, .null, .null, .null, .null, .int 0, .int 0, .int 0, .int 0]), .inl (0, 226, .inl (fun _ => 0)), .inl (0, 226, .inl (fun _ => 0)), .inl (0, 226, .inl (fun _ => 0))]) rfl ?_)
  refine ba (bs (a := [.inr (10, [.ref 1, .ref 2, .ref 3, .ref 4, .int 0, .int 0, .null, .int 0, .int 0, .int 0, .int 0, .int 0, .int 0, .int 0, .int 0, .null, .null, .null, .null, .null, .null, .null, .int 0, .int 0, .int 0, .int 0]), .inl (0, 226, .inl (fun _ => 0)), .inl (0, 226, .inl (fun _ => 0)), .inl (0, 226, .inl (fun _ => 0)), .inl (0, 226, .inl (fun _ => 0))]) rfl ?_)
  refine ba (bs (a := [.inr (10, [.ref 1, .ref 2, .ref 3, .ref 4, .int 0, .int 0, .ref 5, .int 0, .int 0, .int 0, .int 0, .int 0, .int 0, .int 0, .int 0, .null, .null, .null, .null, .null, .null, .null, .int 0, .int 0, .int 0, .int 0]), .inl (0, 226, .inl (fun _ => 0)), .inl (0, 226, .inl (fun _ => 0)), .inl (0, 226, .inl (fun _ => 0)), .inl (0, 226, .inl (fun _ => 0)), .inl (0, 6, .inl (fun _ => 0))]) rfl ?_)
  refine ba (bs (a := [.inr (10, [.ref 1, .ref 2, .ref 3, .ref 4, .int 0, .int 0, .ref 5, .int 0, .int 0, .int 0, .int 0, .int 0, .int 0, .int 0, .int 0, .ref 6, .null, .null, .null, .null, .null, .null, .int 0, .int 0, .int 0, .int 0]), .inl (0, 226, .inl (fun _ => 0)), .inl (0, 226, .inl (fun _ => 0)), .inl (0, 226, .inl (fun _ => 0)), .inl (0, 226, .inl (fun _ => 0)), .inl (0, 6, .inl (fun _ => 0)), .inl (0, 16, .inl (fun _ => 0))]) rfl ?_)
  refine ba (bs (a := [.inr (10, [.ref 1, .ref 2, .ref 3, .ref 4, .int 0, .int 0, .ref 5, .int 0, .int 0, .int 0, .int 0, .int 0, .int 0, .int 0, .int 0, .ref 6, .ref 7, .null, .null, .null, .null, .null, .int 0, .int 0, .int 0, .int 0]), .inl (0, 226, .inl (fun _ => 0)), .inl (0, 226, .inl (fun _ => 0)), .inl (0, 226, .inl (fun _ => 0)), .inl (0, 226, .inl (fun _ => 0)), .inl (0, 6, .inl (fun _ => 0)), .inl (0, 16, .inl (fun _ => 0)), .inl (0, 128, .inl (fun _ => 0))]) rfl ?_)
  refine ba (bs (a := [.inr (10, [.ref 1, .ref 2, .ref 3, .ref 4, .int 0, .int 0, .ref 5, .int 0, .int 0, .int 0, .int 0, .int 0, .int 0, .int 0, .int 0, .ref 6, .ref 7, .ref 8, .null, .null, .null, .null, .int 0, .int 0, .int 0, .int 0]), .inl (0, 226, .inl (fun _ => 0)), .inl (0, 226, .inl (fun _ => 0)), .inl (0, 226, .inl (fun _ => 0)), .inl (0, 226, .inl (fun _ => 0)), .inl (0, 6, .inl (fun _ => 0)), .inl (0, 16, .inl (fun _ => 0)), .inl (0, 128, .inl (fun _ => 0)), .inl (0, 4, .inl (fun _ => 0))]) rfl ?_)
  refine ba (bs (a := [.inr (10, [.ref 1, .ref 2, .ref 3, .ref 4, .int 0, .int 0, .ref 5, .int 0, .int 0, .int 0, .int 0, .int 0, .int 0, .int 0, .int 0, .ref 6, .ref 7, .ref 8, .ref 9, .null, .null, .null, .int 0, .int 0, .int 0, .int 0]), .inl (0, 226, .inl (fun _ => 0)), .inl (0, 226, .inl (fun _ => 0)), .inl (0, 226, .inl (fun _ => 0)), .inl (0, 226, .inl (fun _ => 0)), .inl (0, 6, .inl (fun _ => 0)), .inl (0, 16, .inl (fun _ => 0)), .inl (0, 128, .inl (fun _ => 0)), .inl (0, 4, .inl (fun _ => 0)), .inl (0, 4, .inl (fun _ => 0))]) rfl ?_)
  refine ba (bs (a := [.inr (10, [.ref 1, .ref 2, .ref 3, .ref 4, .int 0, .int 0, .ref 5, .int 0, .int 0, .int 0, .int 0, .int 0, .int 0, .int 0, .int 0, .ref 6, .ref 7, .ref 8, .ref 9, .ref 10, .null, .null, .int 0, .int 0, .int 0, .int 0]), .inl (0, 226, .inl (fun _ => 0)), .inl (0, 226, .inl (fun _ => 0)), .inl (0, 226, .inl (fun _ => 0)), .inl (0, 226, .inl (fun _ => 0)), .inl (0, 6, .inl (fun _ => 0)), .inl (0, 16, .inl (fun _ => 0)), .inl (0, 128, .inl (fun _ => 0)), .inl (0, 4, .inl (fun _ => 0)), .inl (0, 4, .inl (fun _ => 0)), .inl (0, 160, .inl (fun _ => 0))]) rfl ?_)
  refine ba (bs (a := [.inr (10, [.ref 1, .ref 2, .ref 3, .ref 4, .int 0, .int 0, .ref 5, .int 0, .int 0, .int 0, .int 0, .int 0, .int 0, .int 0, .int 0, .ref 6, .ref 7, .ref 8, .ref 9, .ref 10, .ref 11, .null, .int 0, .int 0, .int 0, .int 0]), .inl (0, 226, .inl (fun _ => 0)), .inl (0, 226, .inl (fun _ => 0)), .inl (0, 226, .inl (fun _ => 0)), .inl (0, 226, .inl (fun _ => 0)), .inl (0, 6, .inl (fun _ => 0)), .inl (0, 16, .inl (fun _ => 0)), .inl (0, 128, .inl (fun _ => 0)), .inl (0, 4, .inl (fun _ => 0)), .inl (0, 4, .inl (fun _ => 0)), .inl (0, 160, .inl (fun _ => 0)), .inl (0, 40, .inl (fun _ => 0))]) rfl ?_)
  refine ba (bs (a := [.inr (10, [.ref 1, .ref 2, .ref 3, .ref 4, .int 0, .int 0, .ref 5, .int 0, .int 0, .int 0, .int 0, .int 0, .int 0, .int 0, .int 0, .ref 6, .ref 7, .ref 8, .ref 9, .ref 10, .ref 11, .ref 12, .int 0, .int 0, .int 0, .int 0]), .inl (0, 226, .inl (fun _ => 0)), .inl (0, 226, .inl (fun _ => 0)), .inl (0, 226, .inl (fun _ => 0)), .inl (0, 226, .inl (fun _ => 0)), .inl (0, 6, .inl (fun _ => 0)), .inl (0, 16, .inl (fun _ => 0)), .inl (0, 128, .inl (fun _ => 0)), .inl (0, 4, .inl (fun _ => 0)), .inl (0, 4, .inl (fun _ => 0)), .inl (0, 160, .inl (fun _ => 0)), .inl (0, 40, .inl (fun _ => 0)), .inl (0, 40, .inl (fun _ => 0))]) rfl ?_)
  refine bs (a := 1) rfl (bs (a := [.inr (10, [.ref 1, .ref 2, .ref 3, .ref 4, .int 0, .int 0, .ref 5, .int 0, .int 0, .int 0, .int 0, .int 0, .int 0, .int 0, .int 0, .ref 6, .ref 7, .ref 8, .ref 9, .ref 10, .ref 11, .ref 12, .int 0, .int 0, .int 0, .int 0]), .inl (0, 226, .inl (upd (fun _ => 0) 1 1)), .inl (0, 226, .inl (fun _ => 0)), .inl (0, 226, .inl (fun _ => 0)), .inl (0, 226, .inl (fun _ => 0)), .inl (0, 6, .inl (fun _ => 0)), .inl (0, 16, .inl (fun _ => 0)), .inl (0, 128, .inl (fun _ => 0)), .inl (0, 4, .inl (fun _ => 0)), .inl (0, 4, .inl (fun _ => 0)), .inl (0, 160, .inl (fun _ => 0)), .inl (0, 40, .inl (fun _ => 0)), .inl (0, 40, .inl (fun _ => 0))]) rfl ?_)
  refine bs (a := 1) rfl (bs (a := [.inr (10, [.ref 1, .ref 2, .ref 3, .ref 4, .int 0, .int 0, .ref 5, .int 0, .int 0, .int 0, .int 0, .int 0, .int 0, .int 0, .int 0, .ref 6, .ref 7, .ref 8, .ref 9, .ref 10, .ref 11, .ref 12, .int 0, .int 0, .int 0, .int 0]), .inl (0, 226, .inl (upd (upd (fun _ => 0) 1 1) 5 (-1))), .inl (0, 226, .inl (fun _ => 0)), .inl (0, 226, .inl (fun _ => 0)), .inl (0, 226, .inl (fun _ => 0)), .inl (0, 6, .inl (fun _ => 0)), .inl (0, 16, .inl (fun _ => 0)), .inl (0, 128, .inl (fun _ => 0)), .inl (0, 4, .inl (fun _ => 0)), .inl (0, 4, .inl (fun _ => 0)), .inl (0, 160, .inl (fun _ => 0)), .inl (0, 40, .inl (fun _ => 0)), .inl (0, 40, .inl (fun _ => 0))]) rfl ?_)
  refine bs (a := 1) rfl (bs (a := [.inr (10, [.ref 1, .ref 2, .ref 3, .ref 4, .int 0, .int 0, .ref 5, .int 0, .int 0, .int 0, .int 0, .int 0, .int 0, .int 0, .int 0, .ref 6, .ref 7, .ref 8, .ref 9, .ref 10, .ref 11, .ref 12, .int 0, .int 0, .int 0, .int 0]), .inl (0, 226, .inl (upd (upd (upd (fun _ => 0) 1 1) 5 (-1)) 6 (-1))), .inl (0, 226, .inl (fun _ => 0)), .inl (0, 226, .inl (fun _ => 0)), .inl (0, 226, .inl (fun _ => 0)), .inl (0, 6, .inl (fun _ => 0)), .inl (0, 16, .inl (fun _ => 0)), .inl (0, 128, .inl (fun _ => 0)), .inl (0, 4, .inl (fun _ => 0)), .inl (0, 4, .inl (fun _ => 0)), .inl (0, 160, .inl (fun _ => 0)), .inl (0, 40, .inl (fun _ => 0)), .inl (0, 40, .inl (fun _ => 0))]) rfl ?_)
  rfl
theorem LM_none {u : Nat} (hu : u < 2) (t : Nat → Int32) : LM u (-1) t (fun a b c => clm (mst u) (if u = 0 then 9 - a + c else b / 10)) := by
  intro J B a b c h5 ht
  refine ⟨J, ?_, rfl, rfl, rfl⟩
  rw [sX10_lawOf, if_pos (m_is J B)]
  rcases (show u = 0 ∨ u = 1 by omega) with rfl | rfl
  · rw [if_pos (show nI 0 = 0 from rfl), sX10_lawOf_12, m_R0, Option.bind_some, show (5 + nI 0 : Int32) = nI (5 + 0) from nI_add 5 0, m_A1 _ _ (by omega), Option.bind_some, h5, if_pos (by decide), if_pos (show nI 0 = 0 from rfl), sX10_lawOf_59, show sX10_held (9 - a + c) 0 99 (mW J B) = _ from m_heldc (m := 99) (by decide) _ _]
    rfl
  · rw [if_neg (show ¬ nI 1 = 0 by decide), sX10_lawOf_12, m_R0, Option.bind_some, show (5 + nI 1 : Int32) = nI (5 + 1) from nI_add 5 1, m_A1 _ _ (by omega), Option.bind_some, h5, if_pos (by decide), if_neg (show ¬ nI 1 = 0 by decide), show ab_div b 10 = some (b / 10) from if_neg (by decide), Option.bind_some, sX10_lawOf_59, show sX10_held (b / 10) 0 999 (mW J B) = _ from m_heldc (m := 999) (by decide) _ _]
    rfl
theorem LC_none {u : Nat} (hu : u < 2) (s : Nat → Int32) : LC u 0 s (fun a b c => clm (mst u) (if u = 0 then 9 - a + c else b / 10)) := by
  intro I A tp a b c h5 hA
  refine ⟨A (32 + 3 * u), ?_⟩
  rw [upB_id]
  have em : sX2_isMissing (30 + 3 * u) (cW I A tp) = some (1, cW I A tp) := by
    rw [sX2_isMissing, if_pos (c_uis I A tp hu), c_u2 _ _ _ hu, Option.bind_some, h5, if_pos rfl]; rfl
  rcases (show u = 0 ∨ u = 1 by omega) with rfl | rfl
  · rw [sX0_gives, if_pos (c_is17 I A tp), if_pos (show nI 0 = 0 from rfl), c_R17_2, Option.bind_some, show ab_rald (cW I A tp) 2 20 0 = some 30 from rfl, Option.bind_some, show sX2_isMissing 30 (cW I A tp) = _ from em, ab_b2_some, if_neg (by decide), sX0_gives_39]
    exact congrArg (fun x => some (x, cW I A tp)) (c_clamp (m := 99) (by decide) (by decide) (9 - a + c))
  · rw [sX0_gives, if_pos (c_is17 I A tp), if_neg (show ¬ nI 1 = 0 by decide), c_R17_2, Option.bind_some, show ab_rald (cW I A tp) 2 20 1 = some 33 from rfl, Option.bind_some, show sX2_isMissing 33 (cW I A tp) = _ from em, ab_b2_some, if_neg (by decide), show ab_div b 10 = some (b / 10) from if_neg (by decide), Option.bind_some, sX0_gives_85]
    exact congrArg (fun x => some (x, cW I A tp)) (c_clamp (m := 999) (by decide) (by decide) (b / 10))
theorem sI_0 {i : Nat} (h1 : i ≠ 1) (h2 : i ≠ 201) : sI i = 0 := if_neg (by omega)
theorem sB_0 {i : Nat} (h1 : i ≠ 1) (h2 : i ≠ 5) (h3 : i ≠ 6) : sB 1 i = 0 := by
  show upd (upd (upd (fun _ => 0) 1 1) 5 (-1)) 6 (-1) i = 0
  rw [upd_ne h3, upd_ne h2, upd_ne h1]
theorem sA_0 {f g h : Nat → Int32} {k : Nat} (hk : ¬ (12 ≤ k ∧ k ≤ 14)) : sA f g h k = fun _ => 0 := by
  rw [sA, if_neg (by omega), if_neg (by omega), if_neg (by omega)]
theorem RR_0 {f g h : Nat → Int32} (hT : RT f g) : RR 0 sI (sA f g h) sJ sB := by
  refine ⟨⟨fun i hi => ?_, fun j hj => ?_, fun j hj => ?_, fun i hi h1 => ?_, ⟨_, fun a b c => clm_le (mst 0) _, LM_none (u := 0) (by decide) _, LC_none (u := 0) (by decide) _⟩, ⟨_, fun a b c => clm_le (mst 1) _, LM_none (u := 1) (by decide) _, LC_none (u := 1) (by decide) _⟩⟩, fun k _ _ => rfl, fun s hs => ⟨?_, ?_, fun j hj => ?_, Or.inl rfl, inN_0⟩, hT, ⟨rfl, inN_0, fun q hq => rfl⟩, rfl, Or.inl ⟨rfl, rfl⟩⟩
  · obtain ⟨i1, i2, i3⟩ := hi
    by_cases e1 : i = 1
    · subst e1; rfl
    · rw [sI_0 e1 (by omega), sB_0 e1 i2 i3]
  · rw [sB_0 (by omega) (by omega) (by omega)]; rfl
  · rw [sB_0 (by omega) (by omega) (by omega)]; rfl
  · obtain ⟨i1, i2, i3⟩ := hi
    rw [sB_0 h1 i2 i3]; exact inN_0
  · rw [sI_0 (by omega) (by omega)]; rfl
  · rw [sI_0 (by omega) (by omega)]; rfl
  · rw [sA_0 (by omega)]; rfl
