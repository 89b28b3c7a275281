section OP
variable {n : Nat} {I J : Nat → Int32} {A B : Nat → Nat → Int32} {tp : Nat}
def alB (cr : Nat → Nat) (a b : Nat) : Bool := decide (cr a ≠ cr b) && decide (wid (cr a) = wid (cr b)) && decide (thk (cr a) = thk (cr b))
/-- the pair 10 a + b of papers is one of those that look alike -/
def aT (c : Nat) (cr : Nat → Nat) (x : Nat) : Bool := decide (x / 10 < x % 10) && decide (x % 10 < c) && alB cr (x / 10) (x % 10)
theorem aT_at {c : Nat} {cr : Nat → Nat} {a b : Nat} (hab : a < b) (hb : b < c) (hc : c ≤ 8) : aT c cr (10 * a + b) = alB cr a b := by
  rw [aT, show (10 * a + b) / 10 = a by omega, show (10 * a + b) % 10 = b by omega]
  simp [hab, hb]
theorem aT_f {c : Nat} {cr : Nat → Nat} {x : Nat} (h : x % 10 ≤ x / 10 ∨ c ≤ x % 10) : aT c cr x = false := by
  rw [aT]
  rcases h with h | h
  · rw [show decide (x / 10 < x % 10) = false from by simp; omega]; simp
  · rw [show decide (x % 10 < c) = false from by simp; omega]; simp
theorem cnt_f {P : Nat → Bool} {a : Nat} : ∀ m, (∀ y, a ≤ y → y < a + m → P y = false) → cnt P (a + m) = cnt P a := by
  intro m
  induction m with
  | zero => intro _; rfl
  | succ m ih =>
    intro h
    rw [show a + (m + 1) = (a + m) + 1 by omega, cnt, h (a + m) (by omega) (by omega), ih (fun y h1 h2 => h y h1 (by omega))]
    rfl
def eI (P : Nat → Bool) (e : Int32) (x : Nat) : Prop := (e = -1 ∧ ∀ y, y < x → P y = false) ∨ ∃ l, l < x ∧ e = nI l ∧ P l = true ∧ ∀ y, y < l → P y = false
theorem eI.step {P : Nat → Bool} {e : Int32} {x x' : Nat} (h : eI P e x) (hx : x ≤ x') (hP : ∀ y, x ≤ y → y < x' → P y = false) : eI P e x' := by
  rcases h with ⟨h1, h2⟩ | ⟨l, h1, h2, h3, h4⟩
  · refine Or.inl ⟨h1, fun y hy => ?_⟩
    by_cases e : y < x
    · exact h2 y e
    · exact hP y (by omega) hy
  · exact Or.inr ⟨l, by omega, h2, h3, h4⟩
theorem c_look {a b : Nat} (hT : RT (A 12) (A 13)) (ha : a < 128) (hb : b < 128) : sX6_lookAlike 11 (nI a) (nI b) (cW I A tp) = some (bI (decide (a ≠ b) && decide (wid a = wid b) && decide (thk a = thk b)), cW I A tp) := by
  have w1 := wid_rng ha
  have w2 := wid_rng hb
  have t1 := (mxl_thk ha).2
  have t2 := (mxl_thk hb).2
  rw [sX6_lookAlike, if_pos (c_is11 I A tp)]
  by_cases h0 : a = b
  · subst h0
    rw [if_pos rfl, show (decide (a ≠ a) && decide (wid a = wid a) && decide (thk a = thk a)) = false from by simp]
    rfl
  · rw [if_neg (fun e => h0 ((nI_eq (by omega) (by omega)).mp e)), c_R11_0, Option.bind_some, c_A12 I A tp ha, Option.bind_some, Option.bind_some, c_A12 I A tp hb, Option.bind_some, (hT a ha).1, (hT b hb).1]
    by_cases h1 : wid a = wid b
    · rw [if_pos (by rw [h1]), c_R11_1, Option.bind_some, c_A13 I A tp ha, Option.bind_some, Option.bind_some, c_A13 I A tp hb, Option.bind_some, (hT a ha).2, (hT b hb).2]
      by_cases h2 : thk a = thk b
      · rw [if_pos (by rw [h2]), show (decide (a ≠ b) && decide (wid a = wid b) && decide (thk a = thk b)) = true from by simp [h0, h1, h2]]
        rfl
      · rw [if_neg (fun e => h2 ((nI_eq (by omega) (by omega)).mp e)), show (decide (a ≠ b) && decide (wid a = wid b) && decide (thk a = thk b)) = false from by simp [h2]]
        rfl
    · rw [if_neg (fun e => h1 ((nI_eq (by omega) (by omega)).mp e)), show (decide (a ≠ b) && decide (wid a = wid b) && decide (thk a = thk b)) = false from by simp [h1]]
      rfl
theorem m_look {i j a b : Nat} (hi : i < 8) (hj : j < 8) (ha : a < 128) (hb : b < 128) (ea : B 1 (8 + 6 * i + 3) = nI a) (eb : B 1 (8 + 6 * j + 3) = nI b) : ∃ f, sX10_areAlike 0 (nI i) (nI j) (mW J B) = some (bI (decide (a ≠ b) && decide (wid a = wid b) && decide (thk a = thk b)), mW J (upB B 6 f)) := by
  have w1 := wid_rng ha
  have w2 := wid_rng hb
  have t1 := (mxl_thk ha).2
  have t2 := (mxl_thk hb).2
  rw [sX10_areAlike, if_pos (m_is J B), m_i3 hi, ab_b2_some, m_i3 hj, ab_b2_some, ea, eb]
  by_cases h0 : a = b
  · subst h0
    rw [if_pos rfl, show (decide (a ≠ a) && decide (wid a = wid a) && decide (thk a = thk a)) = false from by simp]
    exact ⟨B 6, by rw [upB_id]; rfl⟩
  · rw [if_neg (fun e => h0 ((nI_eq (by omega) (by omega)).mp e)), m_wide ha, ab_b2_some, m_wide hb, ab_b2_some, upB_upB]
    by_cases h1 : wid a = wid b
    · rw [if_pos (by rw [h1]), m_thick ha, ab_b2_some, m_thick hb, ab_b2_some, upB_upB, upB_upB]
      by_cases h2 : thk a = thk b
      · rw [if_pos (by rw [h2]), show (decide (a ≠ b) && decide (wid a = wid b) && decide (thk a = thk b)) = true from by simp [h0, h1, h2]]
        exact ⟨_, rfl⟩
      · rw [if_neg (fun e => h2 ((nI_eq (by omega) (by omega)).mp e)), show (decide (a ≠ b) && decide (wid a = wid b) && decide (thk a = thk b)) = false from by simp [h2]]
        exact ⟨_, rfl⟩
    · rw [if_neg (fun e => h1 ((nI_eq (by omega) (by omega)).mp e)), show (decide (a ≠ b) && decide (wid a = wid b) && decide (thk a = thk b)) = false from by simp [h1]]
      exact ⟨_, rfl⟩
theorem e10 (i j : Nat) : (10 * nI i + nI j : Int32) = nI (10 * i + j) := by rw [← nI_add, ← pk_mul]; rfl
theorem c_alike_40 {k22 : Nat → Int32 → Int32 → Int32 → Int32 → ab_W → Option (Int32 × ab_W)} {c i : Nat} {cr : Nat → Nat} {x : Int32} (hT : RT (A 12) (A 13)) (hc : c ≤ 8) (hi : i < c) (hcr : ∀ k, k < c → cr k < 128 ∧ I (8 + 6 * k + 3) = nI (cr k)) (h2 : I 2 = nI c) : ∀ (m j k : Nat) (e : Int32), j + m = c → i < j → eI (aT c cr) e (10 * i + j) → ∃ e', sX9_alike_40 k22 (k + m + 1) 0 x (nI (cnt (aT c cr) (10 * i + j))) e (nI i) (nI j) (cW I A tp) = k22 0 x (nI (cnt (aT c cr) (10 * i + c))) e' (nI (i + 1)) (cW I A tp) ∧ eI (aT c cr) e' (10 * i + c) := by
  intro m
  induction m with
  | zero =>
    intro j k e hj hij he
    have : j = c := by omega
    subst this
    refine ⟨e, ?_, he⟩
    rw [sX9_alike_40, c_R0_3, Option.bind_some, c_I17_4, Option.bind_some, h2, if_neg (nI_nlt (by omega) (by omega)), nI_1]
  | succ m ih =>
    intro j k e hj hij he
    have hcl := cnt_le (aT c cr) (10 * i + j)
    obtain ⟨a1, a2⟩ := hcr i hi
    obtain ⟨b1, b2⟩ := hcr j (by omega)
    rw [show k + (m + 1) + 1 = (k + m + 1) + 1 by omega, sX9_alike_40, c_R0_3, Option.bind_some, c_I17_4, Option.bind_some, h2, if_pos (nI_lt (by omega) (by omega)), c_R0_2, Option.bind_some, Option.bind_some, c_R17_0, Option.bind_some, c_Q18 I A tp (by omega), Option.bind_some, c_pI I A tp (by omega) 3 (by decide), Option.bind_some, Option.bind_some, c_R17_0, Option.bind_some, c_Q18 I A tp (by omega), Option.bind_some, c_pI I A tp (by omega) 3 (by decide), Option.bind_some, a2, b2, c_look hT a1 b1, ab_b2_some, ← alB]
    have hat : aT c cr (10 * i + j) = alB cr i j := aT_at hij (by omega) hc
    cases hal : alB cr i j
    · rw [hal] at hat
      rw [if_pos (by decide), sX9_alike_108, nI_1]
      have en : cnt (aT c cr) (10 * i + (j + 1)) = cnt (aT c cr) (10 * i + j) := by rw [show 10 * i + (j + 1) = (10 * i + j) + 1 by omega, cnt, hat]; rfl
      rw [← en]
      exact ih (j + 1) k e (by omega) (by omega) (he.step (by omega) (fun y h1 h2 => by rw [show y = 10 * i + j by omega]; exact hat))
    · rw [hal] at hat
      have en : cnt (aT c cr) (10 * i + (j + 1)) = cnt (aT c cr) (10 * i + j) + 1 := by rw [show 10 * i + (j + 1) = (10 * i + j) + 1 by omega, cnt, hat]; rfl
      rw [if_neg (by decide)]
      rcases he with ⟨rfl, hn⟩ | ⟨l, l1, rfl, l3, l4⟩
      · rw [if_pos (by decide), sX9_alike_107, sX9_alike_108, nI_1, nI_1, e10, ← en]
        exact ih (j + 1) k _ (by omega) (by omega) (Or.inr ⟨10 * i + j, by omega, rfl, hat, hn⟩)
      · rw [if_neg (nI_pos (by omega)), sX9_alike_107, sX9_alike_108, nI_1, nI_1, ← en]
        exact ih (j + 1) k _ (by omega) (by omega) (Or.inr ⟨l, by omega, rfl, l3, l4⟩)
theorem c_alike_22 {c : Nat} {cr : Nat → Nat} {x : Int32} (hT : RT (A 12) (A 13)) (hc : c ≤ 8) (hcr : ∀ k, k < c → cr k < 128 ∧ I (8 + 6 * k + 3) = nI (cr k)) (h2 : I 2 = nI c) : ∀ (m i k : Nat) (e : Int32), i + m = c → eI (aT c cr) e (10 * i + (i + 1)) → ∃ e', sX9_alike_22 (k + m + 1) 0 x (nI (cnt (aT c cr) (10 * i + (i + 1)))) e (nI i) (cW I A tp) = (if x = 0 then some (nI (cnt (aT c cr) 100), cW I A tp) else ab_b2 (sX9_orNone 0 e' (cW I A tp)) fun v3 w4 => some (v3, w4)) ∧ eI (aT c cr) e' 100 := by
  intro m
  induction m with
  | zero =>
    intro i k e hi he
    have : i = c := by omega
    subst this
    have hf : ∀ y, 10 * i + (i + 1) ≤ y → y < 100 → aT i cr y = false := fun y h1 h2 => aT_f (by omega)
    refine ⟨e, ?_, he.step (by omega) hf⟩
    have ec := cnt_f (P := aT i cr) (a := 10 * i + (i + 1)) (100 - (10 * i + (i + 1))) (fun y h1 h2 => hf y h1 (by omega))
    rw [show 10 * i + (i + 1) + (100 - (10 * i + (i + 1))) = 100 by omega] at ec
    rw [sX9_alike_22, c_R0_3, Option.bind_some, c_I17_4, Option.bind_some, h2, if_neg (nI_nlt (by omega) (by omega)), ec]
  | succ m ih =>
    intro i k e hi he
    obtain ⟨e', f1, f2⟩ := c_alike_40 (tp := tp) (k22 := sX9_alike_22 (k + m + 1)) (x := x) hT hc (show i < c by omega) hcr h2 m (i + 1) (999 - m) e (by omega) (by omega) he
    rw [show 999 - m + m + 1 = 1000 by omega] at f1
    have hf : ∀ y, 10 * i + c ≤ y → y < 10 * (i + 1) + (i + 1 + 1) → aT c cr y = false := fun y h1 h2 => aT_f (by omega)
    have ec := cnt_f (P := aT c cr) (a := 10 * i + c) (10 * (i + 1) + (i + 1 + 1) - (10 * i + c)) (fun y h1 h2 => hf y h1 (by omega))
    rw [show 10 * i + c + (10 * (i + 1) + (i + 1 + 1) - (10 * i + c)) = 10 * (i + 1) + (i + 1 + 1) by omega] at ec
    rw [show k + (m + 1) + 1 = (k + m + 1) + 1 by omega, sX9_alike_22, c_R0_3, Option.bind_some, c_I17_4, Option.bind_some, h2, if_pos (nI_lt (by omega) (by omega)), nI_1, f1, ← ec]
    exact ih (i + 1) k e' (by omega) (f2.step (by omega) hf)
def dI (P : Nat → Bool) (many l x : Nat) : Prop := many + cnt P x = cnt P 100 ∧ ((many = 0 ∧ ∀ y, x ≤ y → y < 100 → P y = false) ∨ (0 < many ∧ x ≤ l ∧ l < 100 ∧ P l = true ∧ ∀ y, x ≤ y → y < l → P y = false))
theorem dI.step {P : Nat → Bool} {many l x x' : Nat} (h : dI P many l x) (hx : x' ≤ x) (hP : ∀ y, x' ≤ y → y < x → P y = false) : dI P many l x' := by
  obtain ⟨h1, h2⟩ := h
  have ec := cnt_f (P := P) (a := x') (x - x') (fun y a b => hP y a (by omega))
  rw [show x' + (x - x') = x by omega] at ec
  refine ⟨by rw [← ec]; exact h1, ?_⟩
  rcases h2 with ⟨a, b⟩ | ⟨a, b, c, d, e⟩
  · refine Or.inl ⟨a, fun y h3 h4 => ?_⟩
    by_cases e : x ≤ y
    · exact b y e h4
    · exact hP y h3 (by omega)
  · refine Or.inr ⟨a, by omega, c, d, fun y h3 h4 => ?_⟩
    by_cases e' : x ≤ y
    · exact e y e' h4
    · exact hP y h3 (by omega)
theorem m_alike_45 {k30 : Nat → Int32 → Int32 → Int32 → Int32 → ab_W → Option (Int32 × ab_W)} {c i : Nat} {cr : Nat → Nat} {x : Int32} (hc : c ≤ 8) (hi : i < c) (hcr : ∀ k, k < c → cr k < 128 ∧ B 1 (8 + 6 * k + 3) = nI (cr k)) : ∀ (m j k many l : Nat) (B1 : Nat → Nat → Int32), j = i + m → j < c → dI (aT c cr) many l (10 * i + j + 1) → m6 B B1 → ∃ many' l' B', sX10_alike_45 k30 (k + m + 1) 0 x (nI many) (nI l) (nI i) (nI j) (mW J B1) = k30 0 x (nI many') (nI l') (nI i + (-1)) (mW J B') ∧ dI (aT c cr) many' l' (10 * i + i + 1) ∧ m6 B B' := by
  intro m
  induction m with
  | zero =>
    intro j k many l B1 hj hjc hd h6
    have : j = i := by omega
    subst this
    refine ⟨many, l, B1, ?_, hd, h6⟩
    rw [sX10_alike_45, if_neg (nI_nlt (by omega) (by omega))]
  | succ m ih =>
    intro j k many l B1 hj hjc hd h6
    obtain ⟨j', rfl⟩ : ∃ j', j = j' + 1 := ⟨i + m, by omega⟩
    obtain ⟨a1, a2⟩ := hcr i hi
    obtain ⟨b1, b2⟩ := hcr (j' + 1) hjc
    obtain ⟨f, ea⟩ := m_look (J := J) (B := B1) (show i < 8 by omega) (show j' + 1 < 8 by omega) a1 b1 (by rw [h6 1 (by decide)]; exact a2) (by rw [h6 1 (by decide)]; exact b2)
    rw [show k + (m + 1) + 1 = (k + m + 1) + 1 by omega, sX10_alike_45, if_pos (nI_lt (by omega) (by omega)), ea, ab_b2_some, ← alB]
    have hat : aT c cr (10 * i + (j' + 1)) = alB cr i (j' + 1) := aT_at (by omega) hjc hc
    have hle := cnt_le (aT c cr) 100
    cases hal : alB cr i (j' + 1)
    · rw [hal] at hat
      rw [if_pos (by decide), sX10_alike_75, pk_m1]
      exact ih j' k many l (upB B1 6 f) (by omega) (by omega) (hd.step (by omega) (fun y h1 h2 => by rw [show y = 10 * i + (j' + 1) by omega]; exact hat)) (h6.up f)
    · rw [hal] at hat
      rw [if_neg (by decide), sX10_alike_75, pk_m1, nI_1, e10]
      refine ih j' k (many + 1) (10 * i + (j' + 1)) (upB B1 6 f) (by omega) (by omega) ⟨?_, Or.inr ⟨by omega, by omega, by omega, hat, fun y h1 h2 => absurd h1 (by omega)⟩⟩ (h6.up f)
      have := hd.1
      rw [show 10 * i + (j' + 1) + 1 = (10 * i + j' + 1) + 1 by omega, cnt, show 10 * i + j' + 1 = 10 * i + (j' + 1) by omega, hat] at this
      simp at this
      rw [show 10 * i + j' + 1 = 10 * i + (j' + 1) by omega]
      omega
theorem m_alike_30 {c : Nat} {cr : Nat → Nat} {x : Int32} (hc : c ≤ 8) (h2 : B 1 2 = nI c) (hcr : ∀ k, k < c → cr k < 128 ∧ B 1 (8 + 6 * k + 3) = nI (cr k)) : ∀ (i k many l : Nat) (B1 : Nat → Nat → Int32), i ≤ c → dI (aT c cr) many l (10 * i) → m6 B B1 → ∃ l' B', sX10_alike_30 (k + i + 1) 0 x (nI many) (nI l) (nI i + (-1)) (mW J B1) = sX10_alike_30 (k + 1) 0 x (nI (cnt (aT c cr) 100)) (nI l') (-1) (mW J B') ∧ dI (aT c cr) (cnt (aT c cr) 100) l' 0 ∧ m6 B B' := by
  intro i
  induction i with
  | zero =>
    intro k many l B1 hi hd h6
    have : many = cnt (aT c cr) 100 := by have := hd.1; rw [Nat.mul_zero, cnt] at this; omega
    subst this
    exact ⟨l, B1, rfl, hd, h6⟩
  | succ i ih =>
    intro k many l B1 hi hd h6
    have hd' : dI (aT c cr) many l (10 * i + (c - 1) + 1) := hd.step (by omega) (fun y h1 h2 => aT_f (by omega))
    obtain ⟨many', l', B2, e, d2, h62⟩ := m_alike_45 (J := J) (k30 := sX10_alike_30 (k + i + 1)) (x := x) hc (show i < c by omega) hcr (c - 1 - i) (c - 1) (999 - (c - 1 - i)) many l B1 (by omega) (by omega) hd' h6
    rw [show 999 - (c - 1 - i) + (c - 1 - i) + 1 = 1000 by omega] at e
    obtain ⟨l2, B3, f1, f2, f3⟩ := ih k many' l' B2 (by omega) (d2.step (by omega) (fun y h1 h2 => aT_f (by omega))) h62
    refine ⟨l2, B3, ?_, f2, f3⟩
    rw [show k + (i + 1) + 1 = (k + i + 1) + 1 by omega, pk_m1, sX10_alike_30, if_neg (nI_pos (by omega)), m_R0, Option.bind_some, m_R2', Option.bind_some, h6 1 (by decide), h2, show (nI c - 1 : Int32) = nI (c - 1) from by rw [← pk_sub (show 1 ≤ c by omega)]; rfl, e]
    exact f1
theorem op_alike (h : RR n I A J B) (v : Int32) : OK n (sX9_alike 0 v (cW I A tp)) (sX10_alike 0 v (mW J B)) := by
  by_cases hv : inR v 0 1
  · have hv2 := hv
    obtain ⟨q, -, q1, rfl⟩ := hv
    obtain ⟨c, hc8, hcB, hcI⟩ := h.many
    have hT := h.2.2.2.1
    have hr := h.1.2.2.2.1
    have hcr : ∀ k, k < c → rn (B 1) (8 + 6 * k + 3) < 128 ∧ B 1 (8 + 6 * k + 3) = nI (rn (B 1) (8 + 6 * k + 3)) := fun k hk => by
      have := rn_p hr (j := k) (q := 3) (by omega) (by decide)
      simp only [List.getD_cons_zero, List.getD_cons_succ] at this
      exact ⟨by omega, this.1⟩
    have hcI' : ∀ k, k < c → rn (B 1) (8 + 6 * k + 3) < 128 ∧ I (8 + 6 * k + 3) = nI (rn (B 1) (8 + 6 * k + 3)) := fun k hk => ⟨(hcr k hk).1, (h.at (okP (j := k) (q := 3) (by omega) (by decide))).trans (hcr k hk).2⟩
    obtain ⟨e', e1, e2⟩ := c_alike_22 (tp := tp) (x := nI q) (cr := fun k => rn (B 1) (8 + 6 * k + 3)) hT hc8 hcI' hcI c 0 (999 - c) (-1) (by omega) (Or.inl ⟨rfl, fun y hy => aT_f (by omega)⟩)
    rw [show 999 - c + c + 1 = 1000 by omega] at e1
    have hle := cnt_le (aT c (fun k => rn (B 1) (8 + 6 * k + 3))) 100
    obtain ⟨l, B', f1, f2, f3⟩ := m_alike_30 (J := J) (B := B) (x := nI q) (cr := fun k => rn (B 1) (8 + 6 * k + 3)) hc8 hcB hcr c (999 - c) 0 0 B (by omega) (by
      have hf : ∀ y, 10 * c ≤ y → y < 100 → aT c (fun k => rn (B 1) (8 + 6 * k + 3)) y = false := fun y h1 h2 => aT_f (by omega)
      refine ⟨?_, Or.inl ⟨rfl, hf⟩⟩
      have ec := cnt_f (P := aT c (fun k => rn (B 1) (8 + 6 * k + 3))) (a := 10 * c) (100 - 10 * c) (fun y a b => hf y a (by omega))
      rw [show 10 * c + (100 - 10 * c) = 100 by omega] at ec
      omega) (m6.refl B)
    rw [show 999 - c + c + 1 = 1000 by omega] at f1
    have em : sX10_alike 0 (nI q) (mW J B) = sX10_alike_30 (999 - c + 1) 0 (nI q) (nI (cnt (aT c (fun k => rn (B 1) (8 + 6 * k + 3))) 100)) (nI l) (-1) (mW J B') := by
      rw [sX10_alike, if_pos (m_is J B), mT_0_1 hv2, ab_b2_some, if_neg (by decide), m_R0, Option.bind_some, m_R2', Option.bind_some, hcB, Int32.sub_eq_add_neg]
      exact f1
    have ec : sX9_alike 0 (nI q) (cW I A tp) = (if nI q = 0 then some (nI (cnt (aT c (fun k => rn (B 1) (8 + 6 * k + 3))) 100), cW I A tp) else ab_b2 (sX9_orNone 0 e' (cW I A tp)) fun v3 w4 => some (v3, w4)) := by
      rw [sX9_alike, if_pos (c_is0 I A tp), cT_0_1 hv2, ab_b2_some, if_neg (by decide)]
      exact e1
    rw [em, sX10_alike_30, if_pos (show (-1 : Int32) < 0 by decide), ec]
    rcases (show q = 0 ∨ q = 1 by omega) with rfl | rfl
    · rw [if_pos (by decide), if_neg (by decide), sX10_alike_103, if_pos (by decide)]
      exact ok_same (tp := tp) _ h rfl rfl (cE.refl I A) f3.mE
    · rw [if_neg (show ¬ nI 1 = 0 by decide), if_pos (show nI 1 = 1 from rfl), sX9_orNone, if_pos (c_is0 I A tp)]
      rcases f2.2 with ⟨p1, p2⟩ | ⟨p1, p2, p3, p4, p5⟩
      · rw [p1, if_pos (show nI 0 = 0 from rfl)]
        rcases e2 with ⟨rfl, -⟩ | ⟨l2, k1, k2, k3, k4⟩
        · rw [if_pos (by decide)]
          exact ok_err (tp := tp) (-1000000002) 2 (by decide) (h.congr (cE.refl I A) f3.mE) rfl rfl
        · rw [p2 l2 (by omega) k1] at k3
          exact absurd k3 (by decide)
      · rw [if_neg (show ¬ nI (cnt (aT c (fun k => rn (B 1) (8 + 6 * k + 3))) 100) = 0 from nI_ne0 p1 (by omega)), sX10_alike_103, if_neg (show ¬ nI 1 = 0 by decide)]
        rcases e2 with ⟨rfl, k1⟩ | ⟨l2, k1, rfl, k3, k4⟩
        · rw [k1 l p3] at p4
          exact absurd p4 (by decide)
        · have : l2 = l := by
            rcases Nat.lt_trichotomy l2 l with hlt | he | hlt
            · rw [p5 l2 (by omega) hlt] at k3; exact absurd k3 (by decide)
            · exact he
            · rw [k4 l hlt] at p4; exact absurd p4 (by decide)
          subst this
          rw [if_neg (nI_pos (show l2 < 2 ^ 31 by omega))]
          exact ok_same (tp := tp) (nI l2) h rfl rfl (cE.refl I A) f3.mE
  · refine ok_err (tp := tp) (-1000000001) 1 (by decide) h ?_ ?_
    · rw [sX9_alike, if_pos (c_is0 I A tp), cF_0_1 hv]
      rfl
    · rw [sX10_alike, if_pos (m_is J B), mF_0_1 hv]
      rfl
end OP
