section OP
variable {n : Nat} {I J : Nat → Int32} {A B : Nat → Nat → Int32} {tp : Nat}
def m6 (B B' : Nat → Nat → Int32) : Prop := ∀ k, k ≠ 6 → B' k = B k
theorem m6.mE {B' : Nat → Nat → Int32} (h : m6 B B') : mE J B J B' := ⟨mJ.refl J, fun k hk => h k (by unfold bJ at hk; omega)⟩
theorem m6.up {B' : Nat → Nat → Int32} (h : m6 B B') (f : Nat → Int32) : m6 B (upB B' 6 f) := fun k hk => by rw [upB_ne hk]; exact h k hk
theorem m6.refl (B : Nat → Nat → Int32) : m6 B B := fun _ _ => rfl
def fnd (f : Int32) : Prop := f = -1 ∨ ∃ b, b < 128 ∧ f = nI b
theorem c_fewN {c : Nat} : sX6_isFewer 11 (nI c) (-1) (cW I A tp) = some (1, cW I A tp) := by
  rw [sX6_isFewer, if_pos (c_is11 I A tp), if_pos (by decide)]; rfl
theorem c_fewT {c b : Nat} (hc : c < 128) (hb : b < 128) (h : popc c < popc b) : sX6_isFewer 11 (nI c) (nI b) (cW I A tp) = some (1, cW I A tp) := by
  have := (popc_0 (a := b) (by omega)).1
  rw [sX6_isFewer, if_pos (c_is11 I A tp), if_neg (nI_pos (by omega)), c_bc (by omega), ab_b2_some, c_bc (by omega), ab_b2_some, if_pos (nI_lt h (by omega))]; rfl
theorem c_fewF {c b : Nat} (hc : c < 128) (hb : b < 128) (h : ¬ popc c < popc b) : sX6_isFewer 11 (nI c) (nI b) (cW I A tp) = some (0, cW I A tp) := by
  have := (popc_0 (a := c) (by omega)).1
  rw [sX6_isFewer, if_pos (c_is11 I A tp), if_neg (nI_pos (by omega)), c_bc (by omega), ab_b2_some, c_bc (by omega), ab_b2_some, if_neg (nI_nlt (by omega) (by omega))]; rfl
theorem cm_least {x y : Nat} (hT : RT (A 12) (A 13)) (hx : x ≤ 8) (hy : y ≤ 8) : ∀ (m c k : Nat) (f : Int32) (B1 : Nat → Nat → Int32), c + m = 128 → fnd f → m6 B B1 → ∃ fin B', sX6_fewestCreases_5 (k + m + 1) 11 (nI x) (nI y) f (nI c) (cW I A tp) = some (fin, cW I A tp) ∧ sX10_least_20 (k + m + 1) 0 (nI x) (nI y) f (nI c) (mW J B1) = (if fin < 0 then ab_b2 (sX10_errs 0 (-1000000002) (mW J B')) fun v1 w2 => some (v1, w2) else some (fin, mW J B')) ∧ m6 B B' := by
  intro m
  induction m with
  | zero =>
    intro c k f B1 hc hf h6
    have : c = 128 := by omega
    subst this
    refine ⟨f, B1, ?_, ?_, h6⟩
    · rw [sX6_fewestCreases_5, if_neg (by decide)]
    · rw [sX10_least_20, if_pos (by decide)]
  | succ m ih =>
    intro c k f B1 hc hf h6
    have hc128 : c < 128 := by omega
    have hw := wid_rng hc128
    have ht := (mxl_thk hc128).2
    have key : ∀ B1, m6 B B1 → ∃ fin B', (if nI x < nI (wid c) then sX6_fewestCreases_48 (sX6_fewestCreases_5 (k + m + 1)) 11 (nI x) (nI y) f (nI c) (cW I A tp) else if nI y < nI (thk c) then sX6_fewestCreases_48 (sX6_fewestCreases_5 (k + m + 1)) 11 (nI x) (nI y) f (nI c) (cW I A tp) else sX6_fewestCreases_48 (sX6_fewestCreases_5 (k + m + 1)) 11 (nI x) (nI y) (nI c) (nI c) (cW I A tp)) = some (fin, cW I A tp) ∧ sX10_least_43 (sX10_least_20 (k + m + 1)) 0 (nI x) (nI y) f (nI c) (mW J B1) = (if fin < 0 then ab_b2 (sX10_errs 0 (-1000000002) (mW J B')) fun v1 w2 => some (v1, w2) else some (fin, mW J B')) ∧ m6 B B' := by
      intro B1 h6
      rw [sX10_least_43, m_wide hc128, ab_b2_some]
      by_cases h1 : x < wid c
      · rw [if_pos (nI_lt h1 (by omega)), if_pos (nI_lt h1 (by omega)), sX6_fewestCreases_48, sX10_least_66, nI_1]
        exact ih (c + 1) k f _ (by omega) hf (h6.up _)
      · rw [if_neg (show ¬ nI x < nI (wid c) from nI_nlt (by omega) (by omega)), if_neg (show ¬ nI x < nI (wid c) from nI_nlt (by omega) (by omega)), m_thick hc128, ab_b2_some]
        by_cases h2 : y < thk c
        · rw [if_pos (nI_lt h2 (by omega)), if_pos (nI_lt h2 (by omega)), sX6_fewestCreases_48, sX10_least_66, nI_1]
          exact ih (c + 1) k f _ (by omega) hf ((h6.up _).up _)
        · rw [if_neg (nI_nlt (by omega) (by omega)), if_neg (nI_nlt (by omega) (by omega)), sX6_fewestCreases_48, sX10_least_66, nI_1]
          exact ih (c + 1) k (nI c) _ (by omega) (Or.inr ⟨c, hc128, rfl⟩) ((h6.up _).up _)
    rw [show k + (m + 1) + 1 = (k + m + 1) + 1 by omega, sX10_least_20, if_neg (show ¬ (127 : Int32) < nI c from nI_nlt (a := 127) (by omega) (by decide)), sX6_fewestCreases_5, if_pos (show nI c < 128 from nI_lt (b := 128) hc128 (by decide)), c_R11_0, Option.bind_some, c_A12 I A tp hc128, Option.bind_some, (hT c hc128).1, c_R11_1, Option.bind_some, c_A13 I A tp hc128, Option.bind_some, (hT c hc128).2]
    rcases hf with rfl | ⟨b, hb, rfl⟩
    · rw [if_pos (show (-1 : Int32) < 0 by decide), c_fewN, ab_b2_some, if_neg (show ¬ (1 : Int32) = 0 by decide)]
      exact key B1 h6
    · rw [if_neg (nI_pos (show b < 2 ^ 31 by omega)), m_bits (by omega), ab_b2_some, m_bits (by omega), ab_b2_some]
      have p1 := (popc_0 (a := b) (by omega)).1
      have p2 := (popc_0 (a := c) (by omega)).1
      by_cases hlt : popc c < popc b
      · rw [if_pos (nI_lt hlt (by omega)), c_fewT hc128 hb hlt, ab_b2_some, if_neg (show ¬ (1 : Int32) = 0 by decide)]
        exact key B1 h6
      · rw [if_neg (nI_nlt (show popc b ≤ popc c by omega) (by omega)), c_fewF hc128 hb hlt, ab_b2_some, if_pos rfl, sX10_least_66, sX6_fewestCreases_48, nI_1, ite_self, ite_self]
        exact ih (c + 1) k (nI b) B1 (by omega) (Or.inr ⟨b, hb, rfl⟩) h6
theorem m_sidesT {x y : Int32} (hx : inR x 1 8) (hy : inR y 1 8) (w : ab_W) : sX10_areSides x y w = some (1, w) := by
  rw [sX10_areSides, mT_1_8 hx, ab_b2_some, if_neg (by decide), mT_1_8 hy]; rfl
theorem m_sidesF {x y : Int32} (h : ¬ (inR x 1 8 ∧ inR y 1 8)) (w : ab_W) : sX10_areSides x y w = some (0, w) := by
  rw [sX10_areSides]
  by_cases hx : inR x 1 8
  · rw [mT_1_8 hx, ab_b2_some, if_neg (by decide), mF_1_8 (fun hy => h ⟨hx, hy⟩)]; rfl
  · rw [mF_1_8 hx]; rfl
theorem op_least (h : RR n I A J B) (x y : Int32) : OK n (sX9_least 0 x y (cW I A tp)) (sX10_least 0 x y (mW J B)) := by
  by_cases hx : inR x 1 8
  · by_cases hy : inR y 1 8
    · have hx2 := hx
      have hy2 := hy
      obtain ⟨a, a1, a8, rfl⟩ := hx
      obtain ⟨b, b1, b8, rfl⟩ := hy
      obtain ⟨fin, B', e1, e2, e3⟩ := cm_least (I := I) (tp := tp) (J := J) (B := B) (x := a) (y := b) h.2.2.2.1 a8 b8 128 0 871 (-1) B rfl (Or.inl rfl) (m6.refl B)
      rw [sX10_least, if_pos (m_is J B), m_sidesT hx2 hy2, ab_b2_some, if_neg (by decide), show sX10_least_20 1000 0 (nI a) (nI b) (-1) 0 (mW J B) = _ from e2, sX9_least, if_pos (c_is0 I A tp), cT_1_8 hx2, ab_b2_some, cT_1_8 hy2, ab_b2_some, c_R0_2, Option.bind_some, sX6_fewestCreases, if_pos (c_is11 I A tp), show sX6_fewestCreases_5 1000 11 (nI a) (nI b) (-1) 0 (cW I A tp) = _ from e1, ab_b2_some, sX9_orNone, if_pos (c_is0 I A tp), if_neg (show ¬ (1 : Int32) = 0 by decide), if_neg (show ¬ (1 : Int32) = 0 by decide)]
      by_cases hf : fin < 0
      · rw [if_pos hf, if_pos hf]
        exact ok_err (tp := tp) (-1000000002) 2 (by decide) (h.congr (cE.refl I A) e3.mE) rfl rfl
      · rw [if_neg hf, if_neg hf]
        exact ok_same (tp := tp) fin h rfl rfl (cE.refl I A) e3.mE
    · refine ok_err (tp := tp) (-1000000001) 1 (by decide) h ?_ ?_
      · rw [sX9_least, if_pos (c_is0 I A tp), cT_1_8 hx, ab_b2_some, if_neg (by decide), cF_1_8 hy]
        rfl
      · rw [sX10_least, if_pos (m_is J B), m_sidesF (fun e => hy e.2)]
        rfl
  · refine ok_err (tp := tp) (-1000000001) 1 (by decide) h ?_ ?_
    · rw [sX9_least, if_pos (c_is0 I A tp), cF_1_8 hx]
      rfl
    · rw [sX10_least, if_pos (m_is J B), m_sidesF (fun e => hx e.1)]
      rfl
/-! shapes -/
def cnt (P : Nat → Bool) : Nat → Nat
  | 0 => 0
  | k + 1 => cnt P k + (P k).toNat
theorem cnt_le (P : Nat → Bool) : ∀ c, cnt P c ≤ c := by
  intro c
  induction c with
  | zero => exact Nat.le_refl _
  | succ c ih => rw [cnt]; cases P c <;> simp <;> omega
def shP (a b c : Nat) : Bool := decide (wid c = a) && decide (thk c = b)
theorem c_howMany {a b : Nat} (hT : RT (A 12) (A 13)) (ha : a ≤ 8) (hb : b ≤ 8) : ∀ (m c k : Nat), c + m = 128 → sX6_howMany_5 (k + m + 1) 11 (nI a) (nI b) (nI (cnt (shP a b) c)) (nI c) (cW I A tp) = some (nI (cnt (shP a b) 128), cW I A tp) := by
  intro m
  induction m with
  | zero =>
    intro c k hc
    have : c = 128 := by omega
    subst this
    rw [sX6_howMany_5, if_neg (by decide)]
  | succ m ih =>
    intro c k hc
    have hc128 : c < 128 := by omega
    have hw := wid_rng hc128
    have ht := (mxl_thk hc128).2
    have e := ih (c + 1) k (by omega)
    rw [cnt] at e
    rw [show k + (m + 1) + 1 = (k + m + 1) + 1 by omega, sX6_howMany_5, if_pos (show nI c < 128 from nI_lt (b := 128) hc128 (by decide)), c_R11_0, Option.bind_some, c_A12 I A tp hc128, Option.bind_some, (hT c hc128).1]
    by_cases h1 : wid c = a
    · rw [if_pos (by rw [h1]), c_R11_1, Option.bind_some, c_A13 I A tp hc128, Option.bind_some, (hT c hc128).2]
      by_cases h2 : thk c = b
      · rw [if_pos (by rw [h2]), sX6_howMany_38, nI_1, nI_1]
        rw [show shP a b c = true from by simp [shP, h1, h2]] at e
        exact e
      · rw [if_neg (fun e => h2 ((nI_eq (by omega) (by omega)).mp e)), sX6_howMany_38, nI_1]
        rw [show shP a b c = false from by simp [shP, h2]] at e
        exact e
    · rw [if_neg (fun e => h1 ((nI_eq (by omega) (by omega)).mp e)), sX6_howMany_38, nI_1]
      rw [show shP a b c = false from by simp [shP, h1]] at e
      exact e
theorem c_leastOf {a b : Nat} (hT : RT (A 12) (A 13)) (ha : a ≤ 8) (hb : b ≤ 8) : ∀ (m c k : Nat), c + m = 128 → (∀ i, i < c → shP a b i = false) → ∃ f, sX6_leastOf_2 (k + m + 1) 11 (nI a) (nI b) (nI c) (cW I A tp) = some (f, cW I A tp) ∧ ((f = -1 ∧ ∀ i, i < 128 → shP a b i = false) ∨ ∃ l, l < 128 ∧ f = nI l ∧ shP a b l = true ∧ ∀ i, i < l → shP a b i = false) := by
  intro m
  induction m with
  | zero =>
    intro c k hc hl
    have : c = 128 := by omega
    subst this
    exact ⟨-1, by rw [sX6_leastOf_2, if_neg (by decide)], Or.inl ⟨rfl, hl⟩⟩
  | succ m ih =>
    intro c k hc hl
    have hc128 : c < 128 := by omega
    have hw := wid_rng hc128
    have ht := (mxl_thk hc128).2
    have next : shP a b c = false → ∃ f, sX6_leastOf_2 (k + m + 1) 11 (nI a) (nI b) (nI (c + 1)) (cW I A tp) = some (f, cW I A tp) ∧ ((f = -1 ∧ ∀ i, i < 128 → shP a b i = false) ∨ ∃ l, l < 128 ∧ f = nI l ∧ shP a b l = true ∧ ∀ i, i < l → shP a b i = false) := fun h => ih (c + 1) k (by omega) (fun i hi => by
      by_cases e : i = c
      · subst e; exact h
      · exact hl i (by omega))
    rw [show k + (m + 1) + 1 = (k + m + 1) + 1 by omega, sX6_leastOf_2, if_pos (show nI c < 128 from nI_lt (b := 128) hc128 (by decide)), c_R11_0, Option.bind_some, c_A12 I A tp hc128, Option.bind_some, (hT c hc128).1]
    by_cases h1 : wid c = a
    · rw [if_pos (by rw [h1]), c_R11_1, Option.bind_some, c_A13 I A tp hc128, Option.bind_some, (hT c hc128).2]
      by_cases h2 : thk c = b
      · rw [if_pos (by rw [h2])]
        exact ⟨nI c, rfl, Or.inr ⟨c, hc128, rfl, by simp [shP, h1, h2], hl⟩⟩
      · rw [if_neg (fun e => h2 ((nI_eq (by omega) (by omega)).mp e)), sX6_leastOf_31, nI_1]
        exact next (by simp [shP, h2])
    · rw [if_neg (fun e => h1 ((nI_eq (by omega) (by omega)).mp e)), sX6_leastOf_31, nI_1]
      exact next (by simp [shP, h1])
theorem m_shapes_34 {a b : Nat} {x : Int32} (ha : a ≤ 8) (hb : b ≤ 8) : ∀ (d k many l : Nat) (B1 : Nat → Nat → Int32), d ≤ 128 → many + cnt (shP a b) d = cnt (shP a b) 128 → ((many = 0 ∧ ∀ i, d ≤ i → i < 128 → shP a b i = false) ∨ (0 < many ∧ d ≤ l ∧ l < 128 ∧ shP a b l = true ∧ ∀ i, d ≤ i → i < l → shP a b i = false)) → m6 B B1 → ∃ l' B', sX10_shapes_34 (k + d + 1) 0 (nI a) (nI b) x (nI many) (nI l) (nI d + (-1)) (mW J B1) = sX10_shapes_34 (k + 1) 0 (nI a) (nI b) x (nI (cnt (shP a b) 128)) (nI l') (-1) (mW J B') ∧ m6 B B' ∧ ((cnt (shP a b) 128 = 0 ∧ ∀ i, i < 128 → shP a b i = false) ∨ (0 < cnt (shP a b) 128 ∧ l' < 128 ∧ shP a b l' = true ∧ ∀ i, i < l' → shP a b i = false)) := by
  intro d
  induction d with
  | zero =>
    intro k many l B1 hd hm hl h6
    have : many = cnt (shP a b) 128 := by rw [cnt] at hm; omega
    subst this
    refine ⟨l, B1, rfl, h6, ?_⟩
    rcases hl with ⟨p, q⟩ | ⟨p, q1, q2, q3, q4⟩
    · exact Or.inl ⟨p, fun i hi => q i (by omega) hi⟩
    · exact Or.inr ⟨p, q2, q3, fun i hi => q4 i (by omega) hi⟩
  | succ d ih =>
    intro k many l B1 hd hm hl h6
    have hd128 : d < 128 := by omega
    have hw := wid_rng hd128
    have ht := (mxl_thk hd128).2
    have next0 : shP a b d = false → ∀ B1, m6 B B1 → ∃ l' B', sX10_shapes_34 (k + d + 1) 0 (nI a) (nI b) x (nI many) (nI l) (nI d + (-1)) (mW J B1) = sX10_shapes_34 (k + 1) 0 (nI a) (nI b) x (nI (cnt (shP a b) 128)) (nI l') (-1) (mW J B') ∧ m6 B B' ∧ ((cnt (shP a b) 128 = 0 ∧ ∀ i, i < 128 → shP a b i = false) ∨ (0 < cnt (shP a b) 128 ∧ l' < 128 ∧ shP a b l' = true ∧ ∀ i, i < l' → shP a b i = false)) := fun h0 B1 h6 => ih k many l B1 (by omega) (by rw [cnt, h0] at hm; simp at hm; omega) (by
      rcases hl with ⟨p, q⟩ | ⟨p, q1, q2, q3, q4⟩
      · refine Or.inl ⟨p, fun i h1 h2 => ?_⟩
        by_cases e : i = d
        · subst e; exact h0
        · exact q i (by omega) h2
      · refine Or.inr ⟨p, by omega, q2, q3, fun i h1 h2 => ?_⟩
        by_cases e : i = d
        · subst e; exact h0
        · exact q4 i (by omega) h2) h6
    have e63 : ∀ B1, sX10_shapes_63 (sX10_shapes_34 (k + d + 1)) 0 (nI a) (nI b) x (nI many) (nI l) (nI d) (mW J B1) = sX10_shapes_34 (k + d + 1) 0 (nI a) (nI b) x (nI many) (nI l) (nI d + (-1)) (mW J B1) := fun B1 => by
      rw [sX10_shapes_63, sX10_shapes_64, if_pos rfl, sX10_shapes_78, if_pos rfl, sX10_shapes_93, Int32.add_zero]
    rw [show k + (d + 1) + 1 = (k + d + 1) + 1 by omega, pk_m1, sX10_shapes_34, if_neg (nI_pos (by omega)), m_wide hd128, ab_b2_some]
    by_cases h1 : wid d = a
    · rw [if_pos (by rw [h1]), m_thick hd128, ab_b2_some]
      by_cases h2 : thk d = b
      · rw [if_pos (by rw [h2]), sX10_shapes_64, if_neg (by decide), sX10_shapes_78, if_neg (by decide), sX10_shapes_93, nI_1]
        have hP : shP a b d = true := by simp [shP, h1, h2]
        refine ih k (many + 1) d _ (by omega) (by rw [cnt, hP] at hm; simp at hm; omega) (Or.inr ⟨by omega, by omega, hd128, hP, fun i h1 h2 => absurd h1 (by omega)⟩) ((h6.up _).up _)
      · rw [if_neg (fun e => h2 ((nI_eq (by omega) (by omega)).mp e)), e63]
        exact next0 (by simp [shP, h2]) _ ((h6.up _).up _)
    · rw [if_neg (fun e => h1 ((nI_eq (by omega) (by omega)).mp e)), e63]
      exact next0 (by simp [shP, h1]) _ (h6.up _)
theorem op_shapes (h : RR n I A J B) (x y v : Int32) : OK n (sX9_shapes 0 x y v (cW I A tp)) (sX10_shapes 0 x y v (mW J B)) := by
  by_cases hx : inR x 1 8
  · by_cases hy : inR y 1 8
    · by_cases hv : inR v 0 1
      · have hx2 := hx
        have hy2 := hy
        have hv2 := hv
        obtain ⟨a, a1, a8, rfl⟩ := hx
        obtain ⟨b, b1, b8, rfl⟩ := hy
        obtain ⟨q, -, q1, rfl⟩ := hv
        have hcl := cnt_le (shP a b) 128
        obtain ⟨l, B', e1, e2, e3⟩ := m_shapes_34 (J := J) (B := B) (x := nI q) a8 b8 128 871 0 0 B (by omega) (by omega) (Or.inl ⟨rfl, fun i h1 h2 => absurd h1 (by omega)⟩) (m6.refl B)
        have em : sX10_shapes 0 (nI a) (nI b) (nI q) (mW J B) = sX10_shapes_34 (871 + 1) 0 (nI a) (nI b) (nI q) (nI (cnt (shP a b) 128)) (nI l) (-1) (mW J B') := by
          rw [sX10_shapes, if_pos (m_is J B), m_sidesT hx2 hy2, ab_b2_some, if_neg (by decide), mT_0_1 hv2, ab_b2_some, if_neg (by decide)]
          exact e1
        rw [em, sX10_shapes_34, if_pos (by decide)]
        rcases (show q = 0 ∨ q = 1 by omega) with rfl | rfl
        · refine ok_same (tp := tp) (nI (cnt (shP a b) 128)) h ?_ ?_ (cE.refl I A) e2.mE
          · have e := c_howMany (I := I) (tp := tp) (A := A) h.2.2.2.1 a8 b8 128 0 871 rfl
            rw [sX9_shapes, if_pos (c_is0 I A tp), cT_1_8 hx2, ab_b2_some, if_neg (by decide), cT_1_8 hy2, ab_b2_some, if_neg (by decide), cT_0_1 hv2, ab_b2_some, if_neg (by decide), if_pos (by decide), c_R0_2, Option.bind_some, sX6_howMany, if_pos (c_is11 I A tp), show sX6_howMany_5 1000 11 (nI a) (nI b) 0 0 (cW I A tp) = _ from e]
            rfl
          · rw [if_neg (by decide), sX10_shapes_118, if_pos (by decide)]
        · obtain ⟨f, f1, f2⟩ := c_leastOf (I := I) (tp := tp) (A := A) h.2.2.2.1 a8 b8 128 0 871 rfl (fun i hi => absurd hi (by omega))
          have ec : sX9_shapes 0 (nI a) (nI b) (nI 1) (cW I A tp) = ab_b2 (if f < 0 then ab_b2 (sX9_fail 0 2 (cW I A tp)) fun v1 w2 => some (v1, w2) else some (f, cW I A tp)) fun v13 w14 => some (v13, w14) := by
            rw [sX9_shapes, if_pos (c_is0 I A tp), cT_1_8 hx2, ab_b2_some, if_neg (by decide), cT_1_8 hy2, ab_b2_some, if_neg (by decide), cT_0_1 hv2, ab_b2_some, if_neg (by decide), if_neg (by decide), c_R0_2, Option.bind_some, sX6_leastOf, if_pos (c_is11 I A tp), show sX6_leastOf_2 1000 11 (nI a) (nI b) 0 (cW I A tp) = _ from f1, ab_b2_some, sX9_orNone, if_pos (c_is0 I A tp)]
          rw [ec, if_pos (show nI 1 = 1 from rfl)]
          rcases e3 with ⟨p, p2⟩ | ⟨p, p1, p2, p3⟩
          · rw [p, if_pos (show nI 0 = 0 from rfl)]
            rcases f2 with ⟨rfl, -⟩ | ⟨l2, k1, k2, k3, k4⟩
            · rw [if_pos (by decide)]
              exact ok_err (tp := tp) (-1000000002) 2 (by decide) (h.congr (cE.refl I A) e2.mE) rfl rfl
            · rw [p2 l2 k1] at k3
              exact absurd k3 (by decide)
          · rw [if_neg (nI_ne0 p (by omega)), sX10_shapes_118, if_neg (show ¬ nI 1 = 0 by decide)]
            rcases f2 with ⟨rfl, k1⟩ | ⟨l2, k1, rfl, k3, k4⟩
            · rw [k1 l p1] at p2
              exact absurd p2 (by decide)
            · have : l2 = l := by
                rcases Nat.lt_trichotomy l2 l with hlt | he | hlt
                · rw [p3 l2 hlt] at k3; exact absurd k3 (by decide)
                · exact he
                · rw [k4 l hlt] at p2; exact absurd p2 (by decide)
              subst this
              rw [if_neg (nI_pos (by omega))]
              exact ok_same (tp := tp) (nI l2) h rfl rfl (cE.refl I A) e2.mE
      · refine ok_err (tp := tp) (-1000000001) 1 (by decide) h ?_ ?_
        · rw [sX9_shapes, if_pos (c_is0 I A tp), cT_1_8 hx, ab_b2_some, if_neg (by decide), cT_1_8 hy, ab_b2_some, if_neg (by decide), cF_0_1 hv]
          rfl
        · rw [sX10_shapes, if_pos (m_is J B), m_sidesT hx hy, ab_b2_some, if_neg (by decide), mF_0_1 hv]
          rfl
    · refine ok_err (tp := tp) (-1000000001) 1 (by decide) h ?_ ?_
      · rw [sX9_shapes, if_pos (c_is0 I A tp), cT_1_8 hx, ab_b2_some, if_neg (by decide), cF_1_8 hy]
        rfl
      · rw [sX10_shapes, if_pos (m_is J B), m_sidesF (fun e => hy e.2)]
        rfl
  · refine ok_err (tp := tp) (-1000000001) 1 (by decide) h ?_ ?_
    · rw [sX9_shapes, if_pos (c_is0 I A tp), cF_1_8 hx]
      rfl
    · rw [sX10_shapes, if_pos (m_is J B), m_sidesF (fun e => hx e.1)]
      rfl
end OP
