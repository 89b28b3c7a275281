/-! ===== way: both searches find the least number of folds ===== -/
def Rc (st s : Nat) : Nat → Nat → Prop
  | 0, c => c = s
  | n + 1, c => Rc st s n c ∨ ∃ f, f < 7 ∧ Rc st s n (c ^^^ 2 ^ f) ∧ thk c ≤ st
def Mn (st s n c : Nat) : Prop := Rc st s n c ∧ ∀ m, m < n → ¬ Rc st s m c
theorem xx (u f : Nat) : (u ^^^ 2 ^ f) ^^^ 2 ^ f = u := by rw [Nat.xor_assoc, Nat.xor_self, Nat.xor_zero]
theorem Rc_lt {st s : Nat} (hs : s < 128) : ∀ n c, Rc st s n c → c < 128 := by
  intro n
  induction n with
  | zero => intro c h; rw [Rc] at h; omega
  | succ n ih =>
    intro c h
    rcases h with h | ⟨f, hf, h, -⟩
    · exact ih c h
    · have := (fx (ih _ h) hf).2
      rw [xx] at this
      exact this
theorem Rc_mono {st s : Nat} {n c : Nat} (h : Rc st s n c) : ∀ m, Rc st s (n + m) c := by
  intro m
  induction m with
  | zero => exact h
  | succ m ih => exact Or.inl ih
theorem Mn_uniq {st s n m c : Nat} (h : Mn st s n c) (h' : Mn st s m c) : n = m := by
  rcases Nat.lt_trichotomy n m with hlt | he | hlt
  · exact absurd h.1 (h'.2 n hlt)
  · exact he
  · exact absurd h'.1 (h.2 m hlt)
theorem Rc_least {st s : Nat} : ∀ n c, Rc st s n c → ∃ k, k ≤ n ∧ Mn st s k c := by
  intro n
  induction n with
  | zero => intro c h; exact ⟨0, Nat.le_refl _, h, fun m hm => absurd hm (by omega)⟩
  | succ n ih =>
    intro c h
    by_cases hn : Rc st s n c
    · obtain ⟨k, k1, k2⟩ := ih c hn
      exact ⟨k, by omega, k2⟩
    · refine ⟨n + 1, Nat.le_refl _, h, fun m hm hR => hn ?_⟩
      have := Rc_mono hR (n - m)
      rw [show m + (n - m) = n by omega] at this
      exact this
theorem cnt_one {P P' : Nat → Bool} {v : Nat} (h0 : P v = false) (h1 : P' v = true) (h : ∀ i, i ≠ v → P' i = P i) : ∀ c, v < c → cnt P' c = cnt P c + 1 := by
  have lo : ∀ c, c ≤ v → cnt P' c = cnt P c := by
    intro c
    induction c with
    | zero => intro _; rfl
    | succ c ih => intro hc; rw [cnt, cnt, ih (by omega), h c (by omega)]
  intro c
  induction c with
  | zero => intro hc; omega
  | succ c ih =>
    intro hc
    rw [cnt, cnt]
    by_cases e : c = v
    · subst e; rw [lo c (Nat.le_refl _), h0, h1]; rfl
    · rw [ih (by omega), h c e]; omega
theorem cnt_congr {P Q : Nat → Bool} : ∀ c, (∀ i, i < c → P i = Q i) → cnt P c = cnt Q c := by
  intro c
  induction c with
  | zero => intro _; rfl
  | succ c ih =>
    intro h
    rw [cnt, cnt, ih (fun i hi => h i (by omega)), h c (by omega)]
theorem cnt_full {P : Nat → Bool} : ∀ c, cnt P c = c → ∀ v, v < c → P v = true := by
  intro c
  induction c with
  | zero => intro _ v hv; omega
  | succ c ih =>
    intro h v hv
    rw [cnt] at h
    have hl := cnt_le P c
    have hb : (P c).toNat ≤ 1 := by cases P c <;> decide
    by_cases e : v = c
    · subst e
      cases hp : P v
      · rw [hp] at h; simp at h; omega
      · rfl
    · exact ih (by omega) v (by omega)
section WY
variable {I J : Nat → Int32} {A B : Nat → Nat → Int32} {tp st s : Nat}
/-! the class -/
def QI (st s : Nat) (σ q : Nat → Int32) (Q δ : Nat → Nat) (e i k : Nat) : Prop :=
  (∀ j, j < e → q j = nI (Q j) ∧ Q j < 128 ∧ σ (Q j) = nI (δ j) ∧ Mn st s (δ j) (Q j) ∧ δ j ≤ j) ∧ (∀ j j', j ≤ j' → j' < e → δ j ≤ δ j') ∧ (∀ v, v < 128 → σ v = -1 ∨ ∃ j, j < e ∧ Q j = v) ∧
  (∀ j, i ≤ j → j < e → i < e → δ j ≤ δ i + 1) ∧ (∀ v, v < 128 → σ v = -1 → ∀ j f, (j < i ∧ f < 7 ∨ j = i ∧ f < k) → j < e → v = Q j ^^^ 2 ^ f → ¬ thk v ≤ st) ∧ e ≤ 128 ∧ cnt (fun v => decide (σ v ≠ -1)) 128 = e ∧ 0 < e ∧ Q 0 = s ∧ δ 0 = 0
theorem QI.found {σ q : Nat → Int32} {Q δ : Nat → Nat} {e i k n : Nat} (h : QI st s σ q Q δ e i k) (hs : s < 128) (hn : ∀ j, j < e → δ j < n → j < i) : ∀ m, m ≤ n → ∀ v, Rc st s m v → σ v ≠ -1 := by
  obtain ⟨h1, h2, h3, h4, h5, h6, h7, h8, h9, h10⟩ := h
  intro m
  induction m with
  | zero =>
    intro _ v hv
    rw [Rc] at hv
    subst hv
    have := (h1 0 h8).2.2.1
    rw [h9, h10] at this
    rw [this]
    decide
  | succ m ih =>
    intro hm v hv
    rcases hv with hv | ⟨f, hf, hw, ht⟩
    · exact ih (by omega) v hv
    · intro hneg
      have hv128 : v < 128 := Rc_lt (st := st) hs (m + 1) v (Or.inr ⟨f, hf, hw, ht⟩)
      have hw128 := Rc_lt hs m _ hw
      rcases h3 _ hw128 with h | ⟨j, hj, ej⟩
      · exact ih (by omega) _ hw h
      · have hM := (h1 j hj).2.2.2.1
        rw [ej] at hM
        have hle : δ j ≤ m := by
          rcases Nat.lt_or_ge m (δ j) with h | h
          · exact absurd hw (hM.2 m h)
          · exact h
        have hji := hn j hj (by omega)
        exact h5 v hv128 hneg j f (Or.inl ⟨hji, hf⟩) hj (by rw [ej, xx]) ht
theorem c_way_55 {k28 : Nat → Int32 → Int32 → Int32 → Int32 → ab_W → Option (Int32 × ab_W)} {to : Int32} (hT : RT (A 12) (A 13)) (hs : s < 128) (hst : st ≤ 8) {i u : Nat} : ∀ (m k kf e : Nat) (A1 : Nat → Nat → Int32) (Q δ : Nat → Nat), k + m = 7 → (∀ c, c ≠ 15 → c ≠ 16 → A1 c = A c) → QI st s (A1 15) (A1 16) Q δ e i k → i < e → Q i = u → ∃ e' A2 Q' δ', sX6_fewestFolds_55 k28 (kf + m + 1) 11 to (nI st) (nI e) (nI i) (nI u) (nI k) (cW I A1 tp) = k28 11 to (nI st) (nI e') (nI (i + 1)) (cW I A2 tp) ∧ (∀ c, c ≠ 15 → c ≠ 16 → A2 c = A c) ∧ QI st s (A2 15) (A2 16) Q' δ' e' (i + 1) 0 ∧ i < e' := by
  intro m
  induction m with
  | zero =>
    intro k kf e A1 Q δ hk hA hQ hi hu
    have : k = 7 := by omega
    subst this
    refine ⟨e, A1, Q, δ, ?_, hA, ?_, hi⟩
    · rw [sX6_fewestFolds_55, if_neg (by decide), nI_1]
    · obtain ⟨h1, h2, h3, h4, h5, h6⟩ := hQ
      refine ⟨h1, h2, h3, fun j hj hje hie => ?_, fun v hv hn j f hjf hje hvf => ?_, h6⟩
      · have a := h4 j (by omega) hje hi
        have b := h2 i (i + 1) (by omega) hie
        omega
      · refine h5 v hv hn j f ?_ hje hvf
        rcases hjf with ⟨a, b⟩ | ⟨a, b⟩
        · by_cases e : j = i
          · exact Or.inr ⟨e, b⟩
          · exact Or.inl ⟨by omega, b⟩
        · omega
  | succ m ih =>
    intro k kf e A1 Q δ hk hA hQ hi hu
    have hk7 : k < 7 := by omega
    obtain ⟨h1, h2, h3, h4, h5, h6, h7, h8, h9, h10⟩ := hQ
    have hQ : QI st s (A1 15) (A1 16) Q δ e i k := ⟨h1, h2, h3, h4, h5, h6, h7, h8, h9, h10⟩
    obtain ⟨a1, a2, a3, a4, a5⟩ := h1 i hi
    rw [hu] at a1 a2 a3 a4
    obtain ⟨fx1, fx2⟩ := fx a2 hk7
    have t13 : A1 13 = A 13 := hA 13 (by decide) (by decide)
    have hth := (mxl_thk fx2).2
    rw [show kf + (m + 1) + 1 = (kf + m + 1) + 1 by omega, sX6_fewestFolds_55, if_pos (show nI k < 7 from nI_lt (b := 7) hk7 (by decide)), c_R11_3, Option.bind_some, fx1, c_A15 I A1 tp fx2, Option.bind_some]
    have skip : (A1 15 (u ^^^ 2 ^ k) = -1 → ¬ thk (u ^^^ 2 ^ k) ≤ st) → QI st s (A1 15) (A1 16) Q δ e i (k + 1) := fun hno => ⟨h1, h2, h3, h4, fun v hv hn j f hjf hje hvf => by
      by_cases hjk : j = i ∧ f = k
      · obtain ⟨rfl, rfl⟩ := hjk
        rw [hu] at hvf
        subst hvf
        exact hno hn
      · refine h5 v hv hn j f ?_ hje hvf
        rcases hjf with h | ⟨p, q⟩
        · exact Or.inl h
        · exact Or.inr ⟨p, by omega⟩, h6, h7, h8, h9, h10⟩
    rcases h3 _ fx2 with hneg | ⟨j, hj, ej⟩
    · rw [hneg, if_pos (by decide), c_R11_1, Option.bind_some, c_A13 I A1 tp fx2, Option.bind_some, t13, (hT _ fx2).2]
      by_cases hlt : st < thk (u ^^^ 2 ^ k)
      · rw [if_pos (nI_lt hlt (by omega)), sX6_fewestFolds_128, nI_1]
        exact ih (k + 1) kf e A1 Q δ (by omega) hA (skip (fun _ => by omega)) hi hu
      · have he128 : e < 128 := by
          rcases Nat.lt_or_ge e 128 with h | h
          · exact h
          · have e128 : e = 128 := by omega
            have := cnt_full 128 (h7.trans e128) _ fx2
            simp [hneg] at this
        rw [if_neg (nI_nlt (by omega) (by omega)), if_pos (show nI e < 128 from nI_lt (b := 128) he128 (by decide)), Option.bind_some, Option.bind_some, c_A15 I A1 tp a2, Option.bind_some, c_S15 I A1 tp _ fx2, Option.bind_some, c_R11_4, Option.bind_some, c_S16 _ _ _ _ he128, Option.bind_some, sX6_fewestFolds_128, nI_1, nI_1, a3, nI_1]
        have hnew : Mn st s (δ i + 1) (u ^^^ 2 ^ k) := by
          refine ⟨Or.inr ⟨k, hk7, by rw [xx]; exact a4.1, by omega⟩, fun m hm hR => ?_⟩
          exact hQ.found hs (n := δ i) (fun j hj hlt => by
            rcases Nat.lt_or_ge j i with h | h
            · exact h
            · have := h2 i j h hj
              omega) m (by omega) _ hR hneg
        have hne : ∀ j, j < e → Q j ≠ u ^^^ 2 ^ k := fun j hj he => by
          have := (h1 j hj).2.2.1
          rw [he, hneg] at this
          have hd := (h1 j hj).2.2.2.2
          exact absurd this (by
            intro h
            have := congrArg Int32.toInt h
            rw [nI_toInt (by omega), show (-1 : Int32).toInt = -1 from rfl] at this
            omega)
        refine ih (k + 1) kf (e + 1) _ (fun j => if j = e then u ^^^ 2 ^ k else Q j) (fun j => if j = e then δ i + 1 else δ j) (by omega) (fun c p q => by rw [up2_ne q, up2_ne p]; exact hA c p q) ?_ (by omega) (by
          show (if i = e then u ^^^ 2 ^ k else Q i) = u
          rw [if_neg (by omega)]; exact hu)
        have s15 : up2 (up2 A1 15 (u ^^^ 2 ^ k) (nI (δ i + 1))) 16 e (nI (u ^^^ 2 ^ k)) 15 = upd (A1 15) (u ^^^ 2 ^ k) (nI (δ i + 1)) := by rw [up2_ne (by decide), up2_at]
        have s16 : up2 (up2 A1 15 (u ^^^ 2 ^ k) (nI (δ i + 1))) 16 e (nI (u ^^^ 2 ^ k)) 16 = upd (A1 16) e (nI (u ^^^ 2 ^ k)) := by rw [up2_at, up2_ne (by decide)]
        rw [s15, s16]
        refine ⟨fun j hj => ?_, fun j j' hjj hj' => ?_, fun v hv => ?_, fun j hij hj hie => ?_, fun v hv hn j f hjf hj hvf => ?_, by omega, ?_, by omega, ?_, ?_⟩
        · by_cases ee : j = e
          · subst ee
            simp only [if_true]
            rw [upd_same, upd_same]
            exact ⟨rfl, fx2, rfl, hnew, by omega⟩
          · simp only [if_neg ee]
            obtain ⟨b1, b2, b3, b4, b5⟩ := h1 j (by omega)
            rw [upd_ne ee, upd_ne (hne j (by omega))]
            exact ⟨b1, b2, b3, b4, b5⟩
        · by_cases ee : j' = e
          · subst ee
            simp only [if_true]
            by_cases e2 : j = j'
            · subst e2; simp
            · rw [if_neg e2]
              rcases Nat.lt_or_ge j i with h | h
              · have := h2 j i (by omega) hi
                omega
              · exact h4 j h (by omega) hi
          · simp only [if_neg ee, if_neg (show ¬ j = e by omega)]
            exact h2 j j' hjj (by omega)
        · by_cases ee : v = u ^^^ 2 ^ k
          · exact Or.inr ⟨e, by omega, by simp [ee]⟩
          · rw [upd_ne ee]
            rcases h3 v hv with h | ⟨j, hj, ej⟩
            · exact Or.inl h
            · exact Or.inr ⟨j, by omega, (if_neg (by omega)).trans ej⟩
        · simp only [if_neg (show ¬ i = e by omega)]
          by_cases ee : j = e
          · simp [ee]
          · rw [if_neg ee]
            exact h4 j hij (by omega) hi
        · by_cases ee : v = u ^^^ 2 ^ k
          · subst ee
            rw [upd_same] at hn
            exact absurd hn (by
              intro h
              have := congrArg Int32.toInt h
              rw [nI_toInt (by omega), show (-1 : Int32).toInt = -1 from rfl] at this
              omega)
          · rw [upd_ne ee] at hn
            have hje : ¬ j = e := by omega
            simp only [if_neg hje] at hvf
            by_cases hjk : j = i ∧ f = k
            · obtain ⟨rfl, rfl⟩ := hjk
              rw [hu] at hvf
              exact absurd hvf ee
            · refine h5 v hv hn j f ?_ (by omega) hvf
              rcases hjf with h | ⟨p, q⟩
              · exact Or.inl h
              · exact Or.inr ⟨p, by omega⟩
        · rw [← h7]
          refine cnt_one (v := u ^^^ 2 ^ k) (by simp [hneg]) ?_ (fun v hv => by rw [upd_ne hv]) 128 fx2
          rw [upd_same]
          simp only [ne_eq, decide_eq_true_eq]
          intro h
          have := congrArg Int32.toInt h
          rw [nI_toInt (by omega), show (-1 : Int32).toInt = -1 from rfl] at this
          omega
        · exact (if_neg (by omega)).trans h9
        · exact (if_neg (by omega)).trans h10
    · have hnn := (h1 j hj).2.2.1
      have hd := (h1 j hj).2.2.2.2
      rw [ej] at hnn
      rw [hnn, if_neg (nI_pos (by omega)), sX6_fewestFolds_128, nI_1]
      refine ih (k + 1) kf e A1 Q δ (by omega) hA (skip (fun h => ?_)) hi hu
      rw [hnn] at h
      exact absurd h (by
        intro h
        have := congrArg Int32.toInt h
        rw [nI_toInt (by omega), show (-1 : Int32).toInt = -1 from rfl] at this
        omega)
theorem neg1 {d : Nat} (h : d < 2 ^ 31) : nI d ≠ -1 := by
  intro e
  have := congrArg Int32.toInt e
  rw [nI_toInt h, show (-1 : Int32).toInt = -1 from rfl] at this
  omega
/-- the class's answer -/
def wAns (st s t : Nat) (v : Int32) : Prop := (v = -1 ∧ ∀ m, ¬ Rc st s m t) ∨ ∃ d, d < 128 ∧ v = nI d ∧ Mn st s d t
theorem c_way_28 {t : Nat} (hT : RT (A 12) (A 13)) (hs : s < 128) (hst : st ≤ 8) (ht : t < 128) : ∀ (m i k e : Nat) (A1 : Nat → Nat → Int32) (Q δ : Nat → Nat), i + m = 128 → (∀ c, c ≠ 15 → c ≠ 16 → A1 c = A c) → QI st s (A1 15) (A1 16) Q δ e i 0 → i ≤ e → ∃ v A2, sX6_fewestFolds_28 (k + m + 1) 11 (nI t) (nI st) (nI e) (nI i) (cW I A1 tp) = some (v, cW I A2 tp) ∧ (∀ c, c ≠ 15 → c ≠ 16 → A2 c = A c) ∧ wAns st s t v := by
  intro m
  have fin : ∀ (i e : Nat) (A1 : Nat → Nat → Int32) (Q δ : Nat → Nat), (∀ c, c ≠ 15 → c ≠ 16 → A1 c = A c) → QI st s (A1 15) (A1 16) Q δ e i 0 → e ≤ i → ∃ v A2, sX6_fewestFolds_140 11 (nI t) (cW I A1 tp) = some (v, cW I A2 tp) ∧ (∀ c, c ≠ 15 → c ≠ 16 → A2 c = A c) ∧ wAns st s t v := by
    intro i e A1 Q δ hA hQ hei
    refine ⟨A1 15 t, A1, ?_, hA, ?_⟩
    · rw [sX6_fewestFolds_140, c_R11_3, Option.bind_some, c_A15 I A1 tp ht, Option.bind_some]
    · rcases hQ.2.2.1 t ht with h | ⟨j, hj, ej⟩
      · refine Or.inl ⟨h, fun m hR => ?_⟩
        exact hQ.found hs (n := m) (fun j hj _ => by omega) m (Nat.le_refl _) t hR h
      · obtain ⟨a1, a2, a3, a4, a5⟩ := hQ.1 j hj
        rw [ej] at a3 a4
        have := hQ.2.2.2.2.2.1
        exact Or.inr ⟨δ j, by omega, a3, a4⟩
  induction m with
  | zero =>
    intro i k e A1 Q δ hi hA hQ hie
    have := hQ.2.2.2.2.2.1
    rw [sX6_fewestFolds_28, if_neg (nI_nlt (by omega) (by omega))]
    exact fin i e A1 Q δ hA hQ (by omega)
  | succ m ih =>
    intro i k e A1 Q δ hi hA hQ hie
    have he := hQ.2.2.2.2.2.1
    rw [show k + (m + 1) + 1 = (k + m + 1) + 1 by omega, sX6_fewestFolds_28]
    by_cases hlt : i < e
    · obtain ⟨a1, a2, a3, a4, a5⟩ := hQ.1 i hlt
      obtain ⟨e', A2, Q', δ', f1, f2, f3, f4⟩ := c_way_55 (I := I) (tp := tp) (k28 := sX6_fewestFolds_28 (k + m + 1)) (to := nI t) hT hs hst (i := i) (u := Q i) 7 0 992 e A1 Q δ rfl hA hQ hlt rfl
      rw [if_pos (nI_lt hlt (by omega)), if_pos (show nI i < 128 from nI_lt (b := 128) (by omega) (by decide)), c_R11_4, Option.bind_some, c_A16 I A1 tp (by omega), Option.bind_some, a1, show sX6_fewestFolds_55 (sX6_fewestFolds_28 (k + m + 1)) 1000 11 (nI t) (nI st) (nI e) (nI i) (nI (Q i)) 0 (cW I A1 tp) = _ from f1]
      exact ih (i + 1) k e' A2 Q' δ' (by omega) f2 f3 (by omega)
    · rw [if_neg (nI_nlt (by omega) (by omega))]
      exact fin i e A1 Q δ hA hQ (by omega)
def mf (f : Nat → Int32) (j : Nat) : Nat → Int32 := fun i => if i < j then -1 else f i
theorem mf_0 (f : Nat → Int32) : mf f 0 = f := by funext i; simp [mf]
theorem mf_step (f : Nat → Int32) (j : Nat) : upd (mf f j) j (-1) = mf f (j + 1) := by
  funext i
  by_cases h : i = j
  · subst h; rw [upd_same, mf, if_pos (by omega)]
  · rw [upd_ne h, mf, mf]
    by_cases h2 : i < j
    · rw [if_pos h2, if_pos (by omega)]
    · rw [if_neg h2, if_neg (by omega)]
theorem c_fill15 (f : Nat → Int32) : ∀ (m j k : Nat), j + m = 128 → sJ7_fill_53178_5 (k + m + 1) 15 (-1) (nI j) (nI 128) (cW I (upB A 15 (mf f j)) tp) = some (cW I (upB A 15 (mf f 128)) tp) := by
  intro m
  induction m with
  | zero =>
    intro j k hj
    have : j = 128 := by omega
    subst this
    rw [sJ7_fill_53178_5, if_neg (by decide)]
  | succ m ih =>
    intro j k hj
    rw [show k + (m + 1) + 1 = (k + m + 1) + 1 by omega, sJ7_fill_53178_5, if_pos (nI_lt (by omega) (by decide)), c_S15 _ _ _ _ (by omega), Option.bind_some, upB_up2, mf_step, nI_1]
    exact ih (j + 1) k (by omega)
theorem c_folds {t : Nat} (hT : RT (A 12) (A 13)) (hs : s < 128) (hst : st ≤ 8) (ht : t < 128) : ∃ v A2, sX6_fewestFolds 11 (nI s) (nI t) (nI st) (cW I A tp) = some (v, cW I A2 tp) ∧ (∀ c, c ≠ 15 → c ≠ 16 → A2 c = A c) ∧ wAns st s t v := by
  have fl := c_fill15 (I := I) (A := A) (tp := tp) (A 15) 128 0 871 rfl
  rw [mf_0, upB_id] at fl
  have hQ : QI st s (upd (mf (A 15) 128) s 0) (upd (A 16) 0 (nI s)) (fun _ => s) (fun _ => 0) 1 0 0 := by
    refine ⟨fun j hj => ?_, fun j j' _ _ => Nat.le_refl _, fun v hv => ?_, fun j _ _ _ => Nat.zero_le _, fun v hv hn j f hjf => by omega, by omega, ?_, by omega, rfl, rfl⟩
    · have : j = 0 := by omega
      subst this
      refine ⟨upd_same _ _ _, hs, upd_same _ _ _, ⟨rfl, fun m hm => absurd hm (Nat.not_lt_zero m)⟩, Nat.le_refl 0⟩
    · by_cases e : v = s
      · exact Or.inr ⟨0, by omega, e.symm⟩
      · rw [upd_ne e, mf, if_pos hv]; exact Or.inl rfl
    · have e := cnt_one (P := fun _ => false) (P' := fun v => decide (v = s)) (v := s) rfl (by simp) (fun i hi => by simp [hi]) 128 hs
      have z : ∀ c, cnt (fun _ => false) c = 0 := by
        intro c
        induction c with
        | zero => rfl
        | succ c ih => rw [cnt, ih]; rfl
      rw [z] at e
      rw [show (1 : Nat) = 0 + 1 from rfl, ← e]
      refine cnt_congr 128 (fun c hc => ?_)
      by_cases e : c = s
      · rw [e, upd_same, decide_eq_true rfl]; rfl
      · rw [upd_ne e, mf, if_pos hc, decide_eq_false e, decide_eq_false (fun h => h rfl)]
  obtain ⟨v, A2, f1, f2, f3⟩ := c_way_28 (I := I) (A := A) (tp := tp) hT hs hst ht 128 0 871 1 (up2 (up2 (upB A 15 (mf (A 15) 128)) 15 s 0) 16 0 (nI s)) (fun _ => s) (fun _ => 0) rfl (fun c p q => by rw [up2_ne q, up2_ne p, upB_ne p]) (by
    rw [up2_ne (by decide), up2_at, upB_at, up2_at, up2_ne (by decide), upB_ne (by decide)]
    exact hQ) (by omega)
  refine ⟨v, A2, ?_, f2, f3⟩
  rw [sX6_fewestFolds, if_pos (c_is11 I A tp), c_R11_3, Option.bind_some, sJ7_fill_53178, c_N15, Option.bind_some, show sJ7_fill_53178_5 1000 15 (-1) 0 (nI 128) (cW I A tp) = _ from fl, Option.bind_some, c_R11_3, Option.bind_some, c_S15 _ _ _ _ hs, Option.bind_some, c_R11_4, Option.bind_some, show ∀ (A : Nat → Nat → Int32) (x : Int32), ab_ast (cW I A tp) 16 0 x = some (cW I (up2 A 16 0 x) tp) from fun A x => c_S16 I A tp x (j := 0) (by decide), Option.bind_some]
  exact f1
end WY
