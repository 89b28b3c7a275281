section OP
variable {n : Nat} {I J : Nat → Int32} {A B : Nat → Nat → Int32} {tp : Nat}
def odP (st c : Nat) : Bool := decide (thk c ≤ st)
def odQ (st kd mm c : Nat) : Bool := odP st c && alv c kd mm
theorem c_fold_10 {st : Nat} (hT : RT (A 12) (A 13)) (hs : st ≤ 8) : ∀ (m c k : Nat), c + m = 128 → sX6_foldableSets_10 (k + m + 1) 11 (nI st) (nI (cnt (odP st) c)) (nI c) (cW I A tp) = some (nI (cnt (odP st) 128), cW I A tp) := by
  intro m
  induction m with
  | zero =>
    intro c k hc
    have : c = 128 := by omega
    subst this
    rw [sX6_foldableSets_10, if_neg (by decide)]
  | succ m ih =>
    intro c k hc
    have hc128 : c < 128 := by omega
    have ht := (mxl_thk hc128).2
    have e := ih (c + 1) k (by omega)
    rw [cnt] at e
    rw [show k + (m + 1) + 1 = (k + m + 1) + 1 by omega, sX6_foldableSets_10, if_pos (show nI c < 128 from nI_lt (b := 128) hc128 (by decide)), c_R11_1, Option.bind_some, c_A13 I A tp hc128, Option.bind_some, (hT c hc128).2]
    by_cases h1 : st < thk c
    · rw [if_pos (nI_lt h1 (by omega)), sX6_foldableSets_32, nI_1]
      rw [show odP st c = false from by simp [odP]; omega] at e
      exact e
    · rw [if_neg (nI_nlt (by omega) (by omega)), sX6_foldableSets_32, nI_1, nI_1]
      rw [show odP st c = true from by simp [odP]; omega] at e
      exact e
theorem c_liv_10 {st j kd mm : Nat} (hT : RT (A 12) (A 13)) (hs : st ≤ 8) (hj : j < 8) (hk : I (8 + 6 * j + 0) = nI kd) (hm : I (8 + 6 * j + 1) = nI mm) (k6 : kd ≤ 6) (m9 : mm ≤ 9) : ∀ (m c k : Nat), c + m = 128 → sX6_livingSets_10 (k + m + 1) 11 (22 + j) (nI st) (nI (cnt (odQ st kd mm) c)) (nI c) (cW I A tp) = some (nI (cnt (odQ st kd mm) 128), cW I A tp) := by
  intro m
  induction m with
  | zero =>
    intro c k hc
    have : c = 128 := by omega
    subst this
    rw [sX6_livingSets_10, if_neg (by decide)]
  | succ m ih =>
    intro c k hc
    have hc128 : c < 128 := by omega
    have ht := (mxl_thk hc128).2
    have e := ih (c + 1) k (by omega)
    rw [cnt] at e
    rw [show k + (m + 1) + 1 = (k + m + 1) + 1 by omega, sX6_livingSets_10, if_pos (show nI c < 128 from nI_lt (b := 128) hc128 (by decide)), c_R11_1, Option.bind_some, c_A13 I A tp hc128, Option.bind_some, (hT c hc128).2]
    by_cases h1 : st < thk c
    · rw [if_pos (nI_lt h1 (by omega)), sX6_livingSets_42, nI_1]
      rw [show odQ st kd mm c = false from by simp [odQ, odP]; omega] at e
      exact e
    · rw [if_neg (nI_nlt (by omega) (by omega)), c_live hT hj hk hm k6 m9 hc128, ab_b2_some]
      have hp : odP st c = true := by simp [odP]; omega
      cases hal : alv c kd mm
      · rw [if_pos (by decide), sX6_livingSets_42, nI_1]
        rw [show odQ st kd mm c = false from by simp [odQ, hal]] at e
        exact e
      · rw [if_neg (by decide), sX6_livingSets_42, nI_1, nI_1]
        rw [show odQ st kd mm c = true from by simp [odQ, hal, hp]] at e
        exact e
theorem m_odds_32 {j kd mm : Nat} {x : Int32} (hj : j < 8) (hk : B 1 (8 + 6 * j + 0) = nI kd) (hm : B 1 (8 + 6 * j + 1) = nI mm) (k6 : kd ≤ 6) (m9 : mm ≤ 9) : ∀ (m c k : Nat) (B1 : Nat → Nat → Int32), c + m = 128 → m6 B B1 → ∃ B', sX10_odds_32 (k + m + 1) 0 (nI j) x (nI (cnt (odQ (stf kd mm) kd mm) c)) (nI (cnt (odP (stf kd mm)) c)) (nI c) (mW J B1) = sX10_odds_32 (k + 1) 0 (nI j) x (nI (cnt (odQ (stf kd mm) kd mm) 128)) (nI (cnt (odP (stf kd mm)) 128)) (nI 128) (mW J B') ∧ m6 B B' := by
  have hst := stf_rng k6 m9
  intro m
  induction m with
  | zero =>
    intro c k B1 hc h6
    have : c = 128 := by omega
    subst this
    exact ⟨B1, rfl, h6⟩
  | succ m ih =>
    intro c k B1 hc h6
    have hc128 : c < 128 := by omega
    have ht := (mxl_thk hc128).2
    have h62 : m6 B (upB B1 6 (lyF c 7 (B1 6))) := h6.up _
    rw [show k + (m + 1) + 1 = (k + m + 1) + 1 by omega, sX10_odds_32, if_neg (show ¬ (127 : Int32) < nI c from nI_nlt (a := 127) (by omega) (by decide)), m_thick hc128, ab_b2_some]
    generalize upB B1 6 (lyF c 7 (B1 6)) = B2 at h62 ⊢
    rw [m_stiff hj (by rw [h62 1 (by decide)]; exact hk) (by rw [h62 1 (by decide)]; exact hm) k6 m9, ab_b2_some]
    by_cases h1 : stf kd mm < thk c
    · rw [if_pos (nI_lt h1 (by omega)), sX10_odds_58, if_pos rfl, sX10_odds_72, if_pos rfl, sX10_odds_95, sX10_odds_96, nI_1, Int32.add_zero, Int32.add_zero]
      obtain ⟨B', e, e6⟩ := ih (c + 1) k B2 (by omega) h62
      rw [cnt, cnt, show odQ (stf kd mm) kd mm c = false from by simp [odQ, odP]; omega, show odP (stf kd mm) c = false from by simp [odP]; omega] at e
      exact ⟨B', e, e6⟩
    · rw [if_neg (nI_nlt (by omega) (by omega)), sX10_odds_58, if_neg (by decide), sX10_odds_72, if_neg (by decide)]
      obtain ⟨f, ea⟩ := m_alive (J := J) (B := B2) hj (by rw [h62 1 (by decide)]; exact hk) (by rw [h62 1 (by decide)]; exact hm) k6 m9 hc128
      rw [ea, ab_b2_some]
      obtain ⟨B', e, e6⟩ := ih (c + 1) k (upB B2 6 f) (by omega) (h62.up f)
      have hp : odP (stf kd mm) c = true := by simp [odP]; omega
      rw [cnt, cnt, hp] at e
      cases hal : alv c kd mm
      · rw [if_pos (by decide), sX10_odds_95, sX10_odds_96, nI_1, nI_1, Int32.add_zero]
        rw [show odQ (stf kd mm) kd mm c = false from by simp [odQ, hal]] at e
        exact ⟨B', e, e6⟩
      · rw [if_neg (by decide), sX10_odds_96, nI_1, nI_1, nI_1]
        rw [show odQ (stf kd mm) kd mm c = true from by simp [odQ, hal, hp]] at e
        exact ⟨B', e, e6⟩
theorem cm_gcd (w w' : ab_W) : ∀ (m a b i k : Nat), i + m = 128 → b ≤ m → a ≤ 128 → (0 < a ∨ 0 < b) → ∃ g, 0 < g ∧ g ≤ 128 ∧ sX9_commonDivisor_7 (k + m + 1) (nI a) (nI b) (nI i) w = some (nI g, w) ∧ sX10_divisor_4 (k + m + 1) (nI a) (nI b) w' = some (nI g, w') := by
  intro m
  induction m with
  | zero =>
    intro a b i k hi hb ha hp
    have : b = 0 := by omega
    subst this
    refine ⟨a, by omega, ha, ?_, ?_⟩
    · rw [sX9_commonDivisor_7, if_neg (show ¬ nI i < 128 from nI_nlt (b := 128) (by omega) (by omega))]
    · rw [sX10_divisor_4, if_pos (show nI 0 = 0 from rfl)]
  | succ m ih =>
    intro a b i k hi hb ha hp
    rw [show k + (m + 1) + 1 = (k + m + 1) + 1 by omega, sX9_commonDivisor_7, if_pos (show nI i < 128 from nI_lt (b := 128) (by omega) (by decide)), sX10_divisor_4]
    by_cases h0 : b = 0
    · subst h0
      rw [if_pos (show nI 0 = 0 from rfl), if_pos (show nI 0 = 0 from rfl)]
      exact ⟨a, by omega, ha, rfl, rfl⟩
    · rw [if_neg (nI_ne0 (by omega) (by omega)), if_neg (nI_ne0 (by omega) (by omega)), remk (by omega) (by omega) (by omega), Option.bind_some, Option.bind_some, nI_1]
      have := Nat.mod_lt a (show b > 0 by omega)
      exact ih b (a % b) (i + 1) k (by omega) (by omega) (by omega) (Or.inl (by omega))
theorem op_odds (h : RR n I A J B) (kk v : Int32) : OK n (sX9_odds 0 kk v (cW I A tp)) (sX10_odds 0 kk v (mW J B)) := by
  obtain ⟨c, hc8, hcB, hcI⟩ := h.many
  by_cases hp : isP kk c
  · obtain ⟨j, hj, rfl⟩ := hp
    have hj8 : j < 8 := by omega
    by_cases hv : inR v 0 1
    · have hv2 := hv
      obtain ⟨q, -, q1, rfl⟩ := hv
      obtain ⟨kd, k6, kB, kI⟩ := h.pv (q := 0) hj8 (by decide)
      obtain ⟨mm, m9, mB, mI⟩ := h.pv (q := 1) hj8 (by decide)
      simp only [List.getD_cons_zero, List.getD_cons_succ] at k6 m9
      have hst := stf_rng k6 m9
      have hT := h.2.2.2.1
      obtain ⟨B', e1, e2⟩ := m_odds_32 (J := J) (x := nI q) hj8 kB mB k6 m9 128 0 871 B rfl (m6.refl B)
      have hall : 0 < cnt (odP (stf kd mm)) 128 := by
        have h0 : odP (stf kd mm) 0 = true := by
          rw [odP, show thk 0 = 1 from by decide]
          simp
          omega
        have mono : ∀ m, cnt (odP (stf kd mm)) 1 ≤ cnt (odP (stf kd mm)) (1 + m) := by
          intro m
          induction m with
          | zero => exact Nat.le_refl _
          | succ m ih => exact Nat.le_trans ih (by rw [show 1 + (m + 1) = (1 + m) + 1 by omega, cnt]; omega)
        have := mono 127
        rw [cnt, cnt, h0] at this
        simp at this
        omega
      have hle1 := cnt_le (odP (stf kd mm)) 128
      have hle2 := cnt_le (odQ (stf kd mm) kd mm) 128
      obtain ⟨g, g0, g1, f1, f2⟩ := cm_gcd (cW I A tp) (mW J B') 128 (cnt (odQ (stf kd mm) kd mm) 128) (cnt (odP (stf kd mm)) 128) 0 871 rfl hle1 hle2 (Or.inr hall)
      have l1 := c_liv_10 (A := A) (tp := tp) hT hst.2 hj8 kI mI k6 m9 128 0 871 rfl
      have l2 := c_fold_10 (I := I) (A := A) (tp := tp) hT hst.2 128 0 871 rfl
      have ec : sX9_odds 0 (nI j) (nI q) (cW I A tp) = if nI q = 0 then (ab_div (nI (cnt (odQ (stf kd mm) kd mm) 128)) (nI g)).bind fun v17 => some (v17, cW I A tp) else (ab_div (nI (cnt (odP (stf kd mm)) 128)) (nI g)).bind fun v18 => some (v18, cW I A tp) := by
        rw [sX9_odds, if_pos (c_is0 I A tp), c_R0_3, Option.bind_some, c_has_T hcI hj hc8, ab_b2_some, if_neg (by decide), cT_0_1 hv2, ab_b2_some, if_neg (by decide), c_R0_3, Option.bind_some, c_R17_0, Option.bind_some, c_Q18 I A tp hj8, Option.bind_some, c_R0_2, Option.bind_some, sX6_livingSets, if_pos (c_is11 I A tp), c_stiff hj8 kI mI k6 m9, ab_b2_some, show sX6_livingSets_10 1000 11 (22 + j) (nI (stf kd mm)) 0 0 (cW I A tp) = _ from l1, ab_b2_some, c_R0_2, Option.bind_some, sX6_foldableSets, if_pos (c_is11 I A tp), c_stiff hj8 kI mI k6 m9, ab_b2_some, show sX6_foldableSets_10 1000 11 (nI (stf kd mm)) 0 0 (cW I A tp) = _ from l2, ab_b2_some, sX9_commonDivisor, show sX9_commonDivisor_7 1000 (nI (cnt (odQ (stf kd mm) kd mm) 128)) (nI (cnt (odP (stf kd mm)) 128)) 0 (cW I A tp) = _ from f1, ab_b2_some, if_neg (nI_ne0 g0 (by omega))]
      have em : sX10_odds 0 (nI j) (nI q) (mW J B) = if nI q = 0 then (ab_div (nI (cnt (odQ (stf kd mm) kd mm) 128)) (nI g)).bind fun v17 => some (v17, mW J B') else (ab_div (nI (cnt (odP (stf kd mm)) 128)) (nI g)).bind fun v18 => some (v18, mW J B') := by
        rw [sX10_odds, if_pos (m_is J B), m_isP_T hcB hj hc8, ab_b2_some, if_neg (by decide), mT_0_1 hv2, ab_b2_some, if_neg (by decide), show sX10_odds_32 1000 0 (nI j) (nI q) 0 0 0 (mW J B) = _ from e1, sX10_odds_32, if_pos (by decide), sX10_divisor, show sX10_divisor_4 1000 (nI (cnt (odQ (stf kd mm) kd mm) 128)) (nI (cnt (odP (stf kd mm)) 128)) (mW J B') = _ from f2, ab_b2_some]
      rw [ec, em, divk (by omega) g0 (by omega), divk (by omega) g0 (by omega)]
      rcases (show q = 0 ∨ q = 1 by omega) with rfl | rfl
      · exact ok_same (tp := tp) _ h rfl rfl (cE.refl I A) e2.mE
      · exact ok_same (tp := tp) _ h rfl rfl (cE.refl I A) e2.mE
    · refine ok_err (tp := tp) (-1000000001) 1 (by decide) h ?_ ?_
      · rw [sX9_odds, if_pos (c_is0 I A tp), c_R0_3, Option.bind_some, c_has_T hcI hj hc8, ab_b2_some, if_neg (by decide), cF_0_1 hv]
        rfl
      · rw [sX10_odds, if_pos (m_is J B), m_isP_T hcB hj hc8, ab_b2_some, if_neg (by decide), mF_0_1 hv]
        rfl
  · refine ok_err (tp := tp) (-1000000001) 1 (by decide) h ?_ ?_
    · rw [sX9_odds, if_pos (c_is0 I A tp), c_R0_3, Option.bind_some, c_has_F hcI hc8 hp]
      rfl
    · rw [sX10_odds, if_pos (m_is J B), m_isP_F hcB hc8 hp]
      rfl
end OP
