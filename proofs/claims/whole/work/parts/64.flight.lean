/-! ===== days, in the class: one paper is followed alone ===== -/
def cK (I : Nat → Int32) (A : Nat → Nat → Int32) (I' : Nat → Int32) (A' : Nat → Nat → Int32) : Prop := (∀ i, ¬ (414 ≤ i ∧ i ≤ 418) → I' i = I i) ∧ ∀ k, k ≠ 32 → k ≠ 35 → A' k = A k
theorem cK.refl (I : Nat → Int32) (A : Nat → Nat → Int32) : cK I A I A := ⟨fun _ _ => rfl, fun _ _ _ => rfl⟩
theorem cK.trans {I I' I'' : Nat → Int32} {A A' A'' : Nat → Nat → Int32} (h : cK I A I' A') (h' : cK I' A' I'' A'') : cK I A I'' A'' := ⟨fun i hi => (h'.1 i hi).trans (h.1 i hi), fun k a b => (h'.2 k a b).trans (h.2 k a b)⟩
theorem cK.cE {I I' : Nat → Int32} {A A' : Nat → Nat → Int32} (h : cK I A I' A') : cE I A I' A' := ⟨fun i hi => h.1 i (by unfold iJ at hi; omega), fun k hk => h.2 k (by unfold aJ at hk; omega) (by unfold aJ at hk; omega)⟩
/-- what the class's desk must say of paper j for its flight -/
def EC (j : Nat) (I : Nat → Int32) (A : Nat → Nat → Int32) (r : Nat → Int32) (g0 g1 : Int32 → Int32 → Int32 → Nat) : Prop := I 0 = r 0 ∧ I 7 = r 7 ∧ (∀ q, q < 6 → I (8 + 6 * j + q) = r (8 + 6 * j + q)) ∧ rowOk r ∧ gOk 0 g0 ∧ gOk 1 g1 ∧ LC 0 (I 5) (A 31) g0 ∧ LC 1 (I 6) (A 34) g1 ∧ RT (A 12) (A 13)
theorem EC.cong {j : Nat} {I I' : Nat → Int32} {A A' : Nat → Nat → Int32} {r : Nat → Int32} {g0 g1 : Int32 → Int32 → Int32 → Nat} (h : EC j I A r g0 g1) (hj : j < 8) (hI : ∀ i, i < 56 → I' i = I i) (hA : ∀ k, k ≠ 32 → k ≠ 35 → A' k = A k) : EC j I' A' r g0 g1 := by
  obtain ⟨h0, h7, hq, hr, a, b, l0, l1, ht⟩ := h
  refine ⟨by rw [hI 0 (by decide)]; exact h0, by rw [hI 7 (by decide)]; exact h7, fun q q6 => by rw [hI _ (by omega)]; exact hq q q6, hr, a, b, ?_, ?_, ?_⟩
  · rw [hI 5 (by decide), hA 31 (by decide) (by decide)]; exact l0
  · rw [hI 6 (by decide), hA 34 (by decide) (by decide)]; exact l1
  · rw [hA 12 (by decide) (by decide), hA 13 (by decide) (by decide)]; exact ht
theorem upd_self {f : Nat → Int32} {k : Nat} {x : Int32} (h : f k = x) : upd f k x = f := by
  funext i
  by_cases e : i = k
  · subst e; rw [upd_same, h]
  · rw [upd_ne e]
theorem bI_01 (b : Bool) : bI b = 0 ∨ bI b = 1 := by cases b <;> decide
section FL
variable {I : Nat → Int32} {A : Nat → Nat → Int32} {tp : Nat} {g0 g1 : Int32 → Int32 → Int32 → Nat} {r : Nat → Int32}
theorem c_fbegin {j kd : Nat} (u : Bool) (hj : j < 8) (hk : I (8 + 6 * j + 0) = nI kd) (k6 : kd ≤ 6) : sX1_begin 56 (22 + j) (bI u) (cW I A tp) = some (cW (upd (upd (upd (upd (upd I 414 (I (8 + 6 * j + 5))) 415 (I (8 + 6 * j + 2))) 416 (bI u)) 417 (bI (decide (kd = 5)))) 418 0) A tp) := by
  rw [sX1_begin, if_pos (c_is56 I A tp), c_pI I A tp hj 5 (by decide), Option.bind_some, c_P56_0, Option.bind_some, c_pI _ A tp hj 2 (by decide), Option.bind_some, c_P56_1, Option.bind_some, c_P56_2 _ _ _ (bI_01 u), Option.bind_some, c_pI _ A tp hj 0 (by decide), Option.bind_some]
  simp (disch := omega) only [upd_ne]
  rw [hk]
  by_cases h5 : kd = 5
  · subst h5
    rw [if_pos (by decide), sX1_begin_35, c_P56_3 _ _ _ (Or.inr rfl), Option.bind_some, c_P56_4, Option.bind_some]
    rfl
  · rw [if_neg (show ¬ nI kd = 5 from fun e => h5 ((nI_eq (b := 5) (by omega) (by decide)).mp e)), sX1_begin_35, c_P56_3 _ _ _ (Or.inl rfl), Option.bind_some, c_P56_4, Option.bind_some, show decide (kd = 5) = false from by simp [h5]]
    rfl
theorem c_fpace {kd v w h : Nat} (k6 : kd ≤ 6) (hv : v ≤ 99) (hh : h ≤ 8) : sX1_pace 56 (nI kd) (nI v) (nI w) (nI h) (cW I A tp) = some (cW (upd I 418 (nI (sds kd v w h))) A tp) := by
  rw [sX1_pace, if_pos (c_is56 I A tp)]
  rcases (show kd = 0 ∨ kd = 1 ∨ kd = 2 ∨ kd = 3 ∨ kd = 4 ∨ kd = 5 ∨ kd = 6 by omega) with rfl | rfl | rfl | rfl | rfl | rfl | rfl
  · rfl
  · rw [if_pos (by decide), show (2 * nI v : Int32) = nI (2 * v) from pk_mul 2 v]; rfl
  · rw [if_neg (by decide), if_pos (by decide), nI_add]; rfl
  · rw [if_neg (by decide), if_neg (by decide), if_pos (by decide)]
    by_cases hlt : h < v
    · rw [pk_sub (by omega), if_pos (show (0 : Int32) < nI (v - h) from nI_lt (a := 0) (by omega) (by omega))]; rfl
    · rw [if_neg (show ¬ (0 : Int32) < nI v - nI h from fun e => by
        rw [Int32.lt_iff_toInt_lt, Int32.toInt_sub, nI_toInt (by omega), nI_toInt (by omega), show (0 : Int32).toInt = 0 from rfl] at e
        simp only [Int.bmod] at e
        omega), show sds 3 v w h = 0 from by show v - h = 0; omega]; rfl
  · rw [if_neg (by decide), if_neg (by decide), if_neg (by decide), if_pos (by decide), show (2 * nI v : Int32) = nI (2 * v) from pk_mul 2 v]; rfl
  · rw [if_neg (by decide), if_neg (by decide), if_neg (by decide), if_neg (by decide), if_pos (by decide), nI_add]; rfl
  · rw [if_neg (by decide), if_neg (by decide), if_neg (by decide), if_neg (by decide), if_neg (by decide), if_pos (by decide), show ab_div (nI v) 2 = _ from divk (k := 2) (by omega) (by decide) (by decide)]; rfl
theorem c_tpace {kd c : Nat} {w : Int32} (k6 : kd ≤ 6) (hc : c < 128) (hg : gOk 0 g0) (hL : LC 0 (I 5) (A 31) g0) (hT : RT (A 12) (A 13)) : ∃ f, sX7_pace 55 17 11 (nI kd) (nI c) w (cW I A tp) = some (cW (upd I 418 (nI (str g0 kd c w))) (upB A 32 f) tp) := by
  obtain ⟨f, e⟩ := hL I A tp (nI (wid c)) (nI (thk c)) w rfl (fun j hj => by rw [show 31 + 3 * 0 = 31 from rfl])
  refine ⟨f, ?_⟩
  rw [sX7_pace, if_pos (c_is55 I A tp), c_R11_0, Option.bind_some, c_A12 I A tp hc, Option.bind_some, c_R11_1, Option.bind_some, c_A13 I A tp hc, Option.bind_some, c_R55_4, Option.bind_some, (hT c hc).1, (hT c hc).2, show sX0_gives 17 0 (nI (wid c)) (nI (thk c)) w (cW I A tp) = _ from e, ab_b2_some, c_fpace k6 (hg _ _ _) (mxl_thk hc).2.1]
  rfl
def FS (I : Nat → Int32) (up rs : Bool) (s f d : Nat) : Prop := I 414 = nI f ∧ I 415 = nI d ∧ I 416 = bI up ∧ I 417 = bI rs ∧ I 418 = nI s
theorem c_start {j c : Nat} {w : Int32} (u : Bool) (h : EC j I A r g0 g1) (hj : j < 8) (hc : c < 128) : ∃ I1 I' A', sX1_begin 56 (22 + j) (bI u) (cW I A tp) = some (cW I1 A tp) ∧ (∀ i, ¬ (414 ≤ i ∧ i ≤ 418) → I1 i = I i) ∧ sX7_pace 55 17 11 (nI (rn r (8 + 6 * j + 0))) (nI c) w (cW I1 A tp) = some (cW I' A' tp) ∧ cK I A I' A' ∧ FS I' u (decide (rn r (8 + 6 * j + 0) = 5)) (str g0 (rn r (8 + 6 * j + 0)) c w) (rn r (8 + 6 * j + 5)) (rn r (8 + 6 * j + 2)) := by
  obtain ⟨h0, h7, hq, hr, ga, gb, l0, l1, hT⟩ := h
  have q0 := rn_p hr (j := j) (q := 0) hj (by decide)
  have q2 := rn_p hr (j := j) (q := 2) hj (by decide)
  have q5 := rn_p hr (j := j) (q := 5) hj (by decide)
  simp only [List.getD_cons_zero, List.getD_cons_succ] at q0 q2 q5
  have e1 := c_fbegin (A := A) (tp := tp) u hj ((hq 0 (by decide)).trans q0.1) q0.2
  have hI1 : ∀ i, ¬ (414 ≤ i ∧ i ≤ 418) → upd (upd (upd (upd (upd I 414 (I (8 + 6 * j + 5))) 415 (I (8 + 6 * j + 2))) 416 (bI u)) 417 (bI (decide (rn r (8 + 6 * j + 0) = 5)))) 418 0 i = I i := fun i hi => by
    simp (disch := omega) only [upd_ne]
  obtain ⟨f, e2⟩ := c_tpace (I := upd (upd (upd (upd (upd I 414 (I (8 + 6 * j + 5))) 415 (I (8 + 6 * j + 2))) 416 (bI u)) 417 (bI (decide (rn r (8 + 6 * j + 0) = 5)))) 418 0) (A := A) (tp := tp) (g0 := g0) (w := w) (kd := rn r (8 + 6 * j + 0)) q0.2 hc ga (by rw [hI1 5 (by omega)]; exact l0) hT
  refine ⟨_, _, _, e1, hI1, e2, ⟨fun i hi => by rw [upd_ne (by omega)]; exact hI1 i hi, fun k a b => upB_ne a⟩, ?_, ?_, rfl, rfl, ?_⟩
  · show I (8 + 6 * j + 5) = _
    rw [hq 5 (by decide)]; exact q5.1
  · show I (8 + 6 * j + 2) = _
    rw [hq 2 (by decide)]; exact q2.1
  · rw [upd_same]
theorem c_go {up rs : Bool} {s f d e : Nat} (h : FS I up rs s f d) (hf : f ≤ 999) (hs : s ≤ 999) (he : e < 2 ^ 31) : sX1_go 56 (nI e) (cW I A tp) = some (cW (upd I 414 (nI (if (up && !(rs && e % 5 == 0)) = true then min 999 (f + s) else f))) A tp) := by
  obtain ⟨h4, h5, h6, h7, h8⟩ := h
  have e20 : sX1_go_20 56 (cW I A tp) = some (cW (upd I 414 (nI (min 999 (f + s)))) A tp) := by
    rw [sX1_go_20, c_I56_0, Option.bind_some, c_I56_4, Option.bind_some, h4, h8, nI_add]
    by_cases hlt : f + s < 999
    · rw [if_pos (show nI (f + s) < 999 from nI_lt (b := 999) hlt (by decide)), c_P56_0, Nat.min_eq_right (by omega)]; rfl
    · rw [if_neg (show ¬ nI (f + s) < 999 from nI_nlt (b := 999) (by omega) (by omega)), c_P56_0, Nat.min_eq_left (by omega)]; rfl
  rw [sX1_go, if_pos (c_is56 I A tp), c_I56_2, Option.bind_some, h6]
  cases up
  · rw [if_pos (by decide), if_neg (by simp), upd_self h4]
  · rw [if_neg (by decide), c_I56_3, Option.bind_some, h7]
    cases rs
    · rw [if_pos (by decide), if_pos (by simp)]; exact e20
    · rw [if_neg (by decide), show ab_rem (nI e) 5 = _ from remk (k := 5) he (by decide) (by decide), Option.bind_some]
      by_cases h5 : e % 5 = 0
      · rw [h5, if_pos (by decide), if_neg (by simp), upd_self h4]
      · rw [if_neg (nI_ne0 (by omega) (by omega)), if_pos (by simp [h5])]; exact e20
theorem c_lapse {up rs : Bool} {s f d e : Nat} (h : FS I up rs s f d) (hf : f ≤ 999) (hs : s ≤ 999) (hd : d ≤ 9999) (he : e < 2 ^ 31) (hg : gOk 1 g1) (hL : LC 1 (I 6) (A 34) g1) : ∃ I' A', sX1_goAndLapse 56 17 (nI e) (cW I A tp) = some (cW I' A' tp) ∧ cK I A I' A' ∧ FS I' up rs s (if (up && !(rs && e % 5 == 0)) = true then min 999 (f + s) else f) (if up = true then d - g1 (nI d) (nI (if (up && !(rs && e % 5 == 0)) = true then min 999 (f + s) else f)) (nI (e % 7)) else d) := by
  have hgo := c_go (A := A) (tp := tp) h hf hs he
  obtain ⟨h4, h5, h6, h7, h8⟩ := h
  generalize (if (up && !(rs && e % 5 == 0)) = true then min 999 (f + s) else f) = f' at hgo ⊢
  rw [sX1_goAndLapse, if_pos (c_is56 I A tp), hgo, Option.bind_some, c_I56_2, Option.bind_some, upd_ne (by decide), h6]
  cases up
  · rw [if_pos (by decide), if_neg (by decide)]
    refine ⟨_, _, rfl, ⟨fun i hi => upd_ne (by omega), fun _ _ _ => rfl⟩, ?_⟩
    exact ⟨upd_same _ _ _, (upd_ne (by decide)).trans h5, (upd_ne (by decide)).trans h6, (upd_ne (by decide)).trans h7, (upd_ne (by decide)).trans h8⟩
  · rw [if_neg (by decide), c_I56_1, Option.bind_some, upd_ne (by decide), h5, if_pos rfl]
    by_cases hd0 : 0 < d
    · have hgb : g1 (nI d) (nI f') (nI (e % 7)) ≤ 999 := hg _ _ _
      obtain ⟨F, eL⟩ := hL (upd I 414 (nI f')) A tp (nI d) (nI f') (nI (e % 7)) rfl (fun j hj => by rw [show 31 + 3 * 1 = 34 from rfl])
      rw [if_pos (show (0 : Int32) < nI d from nI_lt (a := 0) hd0 (by omega)), Option.bind_some, Option.bind_some, c_I56_0, Option.bind_some, upd_same, show ab_rem (nI e) 7 = _ from remk (k := 7) he (by decide) (by decide), Option.bind_some, show sX0_gives 17 1 (nI d) (nI f') (nI (e % 7)) (cW (upd I 414 (nI f')) A tp) = _ from eL, ab_b2_some]
      have key : (if 0 < nI d - nI (g1 (nI d) (nI f') (nI (e % 7))) then nI d - nI (g1 (nI d) (nI f') (nI (e % 7))) else 0) = nI (d - g1 (nI d) (nI f') (nI (e % 7))) := by
        generalize g1 (nI d) (nI f') (nI (e % 7)) = v at hgb ⊢
        by_cases hlt : v < d
        · rw [pk_sub (by omega), if_pos (show (0 : Int32) < nI (d - v) from nI_lt (a := 0) (by omega) (by omega))]
        · rw [if_neg (fun e => by
            rw [Int32.lt_iff_toInt_lt, Int32.toInt_sub, nI_toInt (by omega), nI_toInt (by omega), show (0 : Int32).toInt = 0 from rfl] at e
            simp only [Int.bmod] at e
            omega), show d - v = 0 by omega]
          rfl
      rw [key, c_P56_1]
      refine ⟨_, _, rfl, ⟨fun i hi => by rw [upd_ne (by omega), upd_ne (by omega)], fun k a b => upB_ne b⟩, ?_⟩
      refine ⟨?_, upd_same _ _ _, ?_, ?_, ?_⟩
      · rw [upd_ne (by decide), upd_same]
      · rw [upd_ne (by decide), upd_ne (by decide)]; exact h6
      · rw [upd_ne (by decide), upd_ne (by decide)]; exact h7
      · rw [upd_ne (by decide), upd_ne (by decide)]; exact h8
    · have : d = 0 := by omega
      subst this
      rw [if_neg (by decide), Nat.zero_sub]
      refine ⟨_, _, rfl, ⟨fun i hi => upd_ne (by omega), fun _ _ _ => rfl⟩, ?_⟩
      exact ⟨upd_same _ _ _, (upd_ne (by decide)).trans h5, (upd_ne (by decide)).trans h6, (upd_ne (by decide)).trans h7, (upd_ne (by decide)).trans h8⟩
theorem c_farGone_2 {up rs : Bool} {s f0 d q dy : Nat} (hf : f0 ≤ 999) (hs : s ≤ 999) (hq : q ≤ 100) (hdy : dy ≤ 9999) : ∀ (m t k : Nat) (I : Nat → Int32), t + m = q → FS I up rs s (fg up rs s dy f0 t) d → ∃ I', sX7_farGone_2 (k + m + 1) 55 (nI dy) (nI q) (nI t) (cW I A tp) = some (nI (fg up rs s dy f0 q), cW I' A tp) ∧ cK I A I' A := by
  intro m
  induction m with
  | zero =>
    intro t k I ht h
    have : t = q := by omega
    subst this
    refine ⟨I, ?_, cK.refl I A⟩
    rw [sX7_farGone_2, if_neg (nI_nlt (by omega) (by omega)), c_R55_4, Option.bind_some, c_I56_0, Option.bind_some, h.1]
  | succ m ih =>
    intro t k I ht h
    have e1 := c_go (A := A) (tp := tp) (e := dy + t) h (fg_le hf t) hs (by omega)
    rw [← fg] at e1
    obtain ⟨h4, h5, h6, h7, h8⟩ := h
    obtain ⟨I', e2, hk⟩ := ih (t + 1) k _ (by omega) (show FS (upd I 414 (nI (fg up rs s dy f0 (t + 1)))) up rs s (fg up rs s dy f0 (t + 1)) d from ⟨upd_same _ _ _, (upd_ne (by decide)).trans h5, (upd_ne (by decide)).trans h6, (upd_ne (by decide)).trans h7, (upd_ne (by decide)).trans h8⟩)
    refine ⟨I', ?_, (show cK I A _ A from ⟨fun i hi => upd_ne (by omega), fun _ _ _ => rfl⟩).trans hk⟩
    rw [show k + (m + 1) + 1 = (k + m + 1) + 1 by omega, sX7_farGone_2, if_pos (nI_lt (by omega) (by omega)), c_R55_4, Option.bind_some, nI_add, e1, Option.bind_some, nI_1]
    exact e2
theorem c_farGone {up rs : Bool} {s f0 d q dy : Nat} (hf : f0 ≤ 999) (hs : s ≤ 999) (hq : q ≤ 100) (hdy : dy ≤ 9999) (h : FS I up rs s f0 d) : ∃ I', sX7_farGone 55 (nI dy) (nI q) (cW I A tp) = some (nI (fg up rs s dy f0 q), cW I' A tp) ∧ cK I A I' A := by
  obtain ⟨I', e, hk⟩ := c_farGone_2 (A := A) (tp := tp) (up := up) (rs := rs) hf hs hq hdy q 0 (999 - q) I (by omega) h
  rw [show 999 - q + q + 1 = 1000 by omega] at e
  exact ⟨I', by rw [sX7_farGone, if_pos (c_is55 I A tp)]; exact e, hk⟩
theorem c_debtBehind_17 {up rs : Bool} {s f0 d0 q dy : Nat} (hf : f0 ≤ 999) (hs : s ≤ 999) (hd0 : d0 ≤ 9999) (hq : q ≤ 100) (hdy : dy ≤ 9999) (hg : gOk 1 g1) : ∀ (m t k : Nat) (I : Nat → Int32) (A : Nat → Nat → Int32), t + m = q → I 0 = nI dy → LC 1 (I 6) (A 34) g1 → FS I up rs s (fg up rs s dy f0 t) (dg g1 up rs s dy f0 d0 t) → ∃ I' A', sX7_debtBehind_17 (k + m + 1) 55 17 (nI q) (nI t) (cW I A tp) = some (nI (dg g1 up rs s dy f0 d0 q), cW I' A' tp) ∧ cK I A I' A' ∧ I' 414 = nI (fg up rs s dy f0 q) := by
  intro m
  induction m with
  | zero =>
    intro t k I A ht h0 hL h
    have : t = q := by omega
    subst this
    refine ⟨I, A, ?_, cK.refl I A, h.1⟩
    rw [sX7_debtBehind_17, if_neg (nI_nlt (by omega) (by omega)), c_R55_4, Option.bind_some, c_I56_1, Option.bind_some, h.2.1]
  | succ m ih =>
    intro t k I A ht h0 hL h
    have hd : dg g1 up rs s dy f0 d0 t ≤ 9999 := Nat.le_trans (dg_le t) hd0
    obtain ⟨I1, A1, e1, k1, h1⟩ := c_lapse (A := A) (tp := tp) (g1 := g1) (e := dy + t) h (fg_le hf t) hs hd (by omega) hg hL
    rw [← fg, ← dg] at h1
    obtain ⟨I', A', e2, k2, h2⟩ := ih (t + 1) k I1 A1 (by omega) (by rw [k1.1 0 (by omega)]; exact h0) (by rw [k1.1 6 (by omega), k1.2 34 (by decide) (by decide)]; exact hL) h1
    refine ⟨I', A', ?_, k1.trans k2, h2⟩
    rw [show k + (m + 1) + 1 = (k + m + 1) + 1 by omega, sX7_debtBehind_17, if_pos (nI_lt (by omega) (by omega)), c_R55_4, Option.bind_some, c_I17_5, Option.bind_some, h0, nI_add, e1, Option.bind_some, nI_1]
    exact e2
theorem c_follow {j : Nat} (u : Bool) (h : EC j I A r g0 g1) (hj : j < 8) : ∃ I' A', sX7_follow 55 17 11 (22 + j) (bI u) (cW I A tp) = some (cW I' A' tp) ∧ cK I A I' A' ∧ FS I' u (decide (rn r (8 + 6 * j + 0) = 5)) (str g0 (rn r (8 + 6 * j + 0)) (rn r (8 + 6 * j + 3)) (r 7)) (rn r (8 + 6 * j + 5)) (rn r (8 + 6 * j + 2)) := by
  have hr := h.2.2.2.1
  have q0 := rn_p hr (j := j) (q := 0) hj (by decide)
  have q3 := rn_p hr (j := j) (q := 3) hj (by decide)
  simp only [List.getD_cons_zero, List.getD_cons_succ] at q0 q3
  obtain ⟨I1, I', A', e1, a1, e2, k, hF⟩ := c_start (tp := tp) (c := rn r (8 + 6 * j + 3)) (w := r 7) u h hj (by omega)
  refine ⟨I', A', ?_, k, hF⟩
  rw [sX7_follow, if_pos (c_is55 I A tp), c_R55_4, Option.bind_some, e1, Option.bind_some, c_pI _ A tp hj 0 (by decide), Option.bind_some, c_pI _ A tp hj 3 (by decide), Option.bind_some, c_I17_6, Option.bind_some, a1 _ (by omega), a1 _ (by omega), a1 _ (by omega), h.2.2.1 0 (by decide), h.2.2.1 3 (by decide), h.2.1, q0.1, q3.1, e2]
  rfl
theorem c_debtBehind {j q : Nat} (u : Bool) (h : EC j I A r g0 g1) (hj : j < 8) (hq : q ≤ 100) : ∃ I' A', sX7_debtBehind 55 17 11 (nI j) (bI u) (nI q) (cW I A tp) = some (nI (dg g1 u (decide (rn r (8 + 6 * j + 0) = 5)) (str g0 (rn r (8 + 6 * j + 0)) (rn r (8 + 6 * j + 3)) (r 7)) (rn r 0) (rn r (8 + 6 * j + 5)) (rn r (8 + 6 * j + 2)) q), cW I' A' tp) ∧ cK I A I' A' ∧ I' 414 = nI (fg u (decide (rn r (8 + 6 * j + 0) = 5)) (str g0 (rn r (8 + 6 * j + 0)) (rn r (8 + 6 * j + 3)) (r 7)) (rn r 0) (rn r (8 + 6 * j + 5)) q) := by
  have hr := h.2.2.2.1
  have q3 := rn_p hr (j := j) (q := 3) hj (by decide)
  have q5 := rn_p hr (j := j) (q := 5) hj (by decide)
  have q2 := rn_p hr (j := j) (q := 2) hj (by decide)
  simp only [List.getD_cons_zero, List.getD_cons_succ] at q3 q5 q2
  obtain ⟨d1, d2⟩ := rn_d hr
  obtain ⟨I1, A1, e1, k1, hF⟩ := c_follow (tp := tp) u h hj
  have hs := str_le (kd := rn r (8 + 6 * j + 0)) (c := rn r (8 + 6 * j + 3)) (w := r 7) h.2.2.2.2.1 (by omega)
  obtain ⟨I', A', e2, k2, h2⟩ := c_debtBehind_17 (g1 := g1) (tp := tp) (f0 := rn r (8 + 6 * j + 5)) (d0 := rn r (8 + 6 * j + 2)) (dy := rn r 0) (q := q) q5.2 (by omega) q2.2 hq d2 h.2.2.2.2.2.1 q 0 (999 - q) I1 A1 (by omega) (by rw [k1.1 0 (by omega), h.1]; exact d1) (by rw [k1.1 6 (by omega), k1.2 34 (by decide) (by decide)]; exact h.2.2.2.2.2.2.2.1) hF
  rw [show 999 - q + q + 1 = 1000 by omega] at e2
  refine ⟨I', A', ?_, k1.trans k2, h2⟩
  rw [sX7_debtBehind, if_pos (c_is55 I A tp), c_R17_0, Option.bind_some, c_Q18 I A tp hj, Option.bind_some, e1, Option.bind_some]
  exact e2
theorem c_farBehind {j q : Nat} {w : Int32} (h : EC j I A r g0 g1) (hj : j < 8) (hq : q ≤ 100) : ∃ I' A', sX7_farBehind 55 17 11 (nI j) w (nI q) (cW I A tp) = some (nI (fg (decide (rn r (8 + 6 * j + 4) = 1)) (decide (rn r (8 + 6 * j + 0) = 5)) (str g0 (rn r (8 + 6 * j + 0)) (rn r (8 + 6 * j + 3)) w) (rn r 0) (rn r (8 + 6 * j + 5)) q), cW I' A' tp) ∧ cK I A I' A' := by
  have hr := h.2.2.2.1
  have q0 := rn_p hr (j := j) (q := 0) hj (by decide)
  have q3 := rn_p hr (j := j) (q := 3) hj (by decide)
  have q4 := rn_p hr (j := j) (q := 4) hj (by decide)
  have q5 := rn_p hr (j := j) (q := 5) hj (by decide)
  simp only [List.getD_cons_zero, List.getD_cons_succ] at q0 q3 q4 q5
  obtain ⟨d1, d2⟩ := rn_d hr
  have eu : I (8 + 6 * j + 4) = bI (decide (rn r (8 + 6 * j + 4) = 1)) := by
    rw [h.2.2.1 4 (by decide), q4.1]
    rcases (show rn r (8 + 6 * j + 4) = 0 ∨ rn r (8 + 6 * j + 4) = 1 by omega) with e | e <;> rw [e] <;> rfl
  obtain ⟨I1, I2, A2, e1, a1, e2, k, hF⟩ := c_start (tp := tp) (c := rn r (8 + 6 * j + 3)) (w := w) (decide (rn r (8 + 6 * j + 4) = 1)) h hj (by omega)
  have hs := str_le (kd := rn r (8 + 6 * j + 0)) (c := rn r (8 + 6 * j + 3)) (w := w) h.2.2.2.2.1 (by omega)
  obtain ⟨I', e3, k3⟩ := c_farGone (A := A2) (tp := tp) (q := q) (dy := rn r 0) q5.2 (by omega) hq d2 hF
  refine ⟨I', A2, ?_, k.trans k3⟩
  rw [sX7_farBehind, if_pos (c_is55 I A tp), c_R17_0, Option.bind_some, c_Q18 I A tp hj, Option.bind_some, c_R55_4, Option.bind_some, c_pI I A tp hj 4 (by decide), Option.bind_some, eu, e1, Option.bind_some, c_pI _ A tp hj 0 (by decide), Option.bind_some, c_pI _ A tp hj 3 (by decide), Option.bind_some, a1 _ (by omega), a1 _ (by omega), h.2.2.1 0 (by decide), h.2.2.1 3 (by decide), q0.1, q3.1, e2, Option.bind_some, c_I17_5, Option.bind_some, k.1 0 (by omega), h.1, d1, e3]
  rfl
end FL
