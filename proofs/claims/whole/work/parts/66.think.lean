/-! ===== what is only thought: the reference's row is kept, and put back ===== -/
def TH (J : Nat → Int32) (B : Nat → Nat → Int32) (J' : Nat → Int32) (B' : Nat → Nat → Int32) : Prop := mJ J J' ∧ B' 1 = B 1 ∧ (∀ i, i < 226 → B' 3 i = B 1 i) ∧ ∀ k, k ≠ 1 → k ≠ 3 → k ≠ 6 → B' k = B k
theorem TH.mE {J J' : Nat → Int32} {B B' : Nat → Nat → Int32} (h : TH J B J' B') : mE J B J' B' := by
  refine ⟨h.1, fun k hk => ?_⟩
  by_cases h1 : k = 1
  · subst h1; exact h.2.1
  · exact h.2.2.2 k h1 (by unfold bJ at hk; omega) (by unfold bJ at hk; omega)
section TK
variable {J : Nat → Int32} {B : Nat → Nat → Int32}
theorem m_th0 : ∃ B', sX10_moveAll 0 1 3 (mW J B) = some (mW J B') ∧ TH J B J B' :=
  ⟨_, m_moveAll (by omega) (by omega) (by decide), mJ.refl J, rfl, fun i hi => mv_at hi, fun k h1 h3 h6 => upB_ne h3⟩
theorem m_thb {J1 J2 : Nat → Int32} {B1 B2 : Nat → Nat → Int32} {ρ : Nat → Int32} (h : TH J B J1 B1) (hJ : mJ J1 J2) (h2 : B2 1 = ρ) (hB : ∀ k, k ≠ 1 → k ≠ 6 → B2 k = B1 k) (hρ : ∀ i, 226 ≤ i → ρ i = B 1 i) : ∃ B3, sX10_moveAll 0 3 1 (mW J2 B2) = some (mW J2 B3) ∧ TH J B J2 B3 := by
  refine ⟨_, m_moveAll (by omega) (by omega) (by decide), h.1.trans hJ, ?_, fun i hi => ?_, fun k h1 h3 h6 => ?_⟩
  · rw [upB_at]
    funext i
    by_cases hi : i < 226
    · rw [mv_at hi, hB 3 (by decide) (by decide)]; exact h.2.2.1 i hi
    · rw [mv, if_neg hi, h2]; exact hρ i (by omega)
  · rw [upB_ne (by decide), hB 3 (by decide) (by decide)]; exact h.2.2.1 i hi
  · rw [upB_ne h1, hB k h1 h6]; exact h.2.2.2 k h1 h3 h6
theorem rt_far226 {g0 g1 : Int32 → Int32 → Int32 → Nat} {r : Nat → Int32} {t j : Nat} (hr : rowOk r) : ∀ i, 226 ≤ i → rt g0 g1 r t j i = r i := fun i hi => by
  have := (rn_c hr).2
  exact rt_else (by omega) (by omega)
end TK
section OP
variable {n : Nat} {I J : Nat → Int32} {A B : Nat → Nat → Int32} {tp : Nat}
theorem up_bI {r : Nat → Int32} (hr : rowOk r) {j : Nat} (hj : j < 8) {v : Int32} (h : v = r (8 + 6 * j + 4)) : v = bI (decide (rn r (8 + 6 * j + 4) = 1)) := by
  have q4 := rn_p hr (j := j) (q := 4) hj (by decide)
  simp only [List.getD_cons_zero, List.getD_cons_succ] at q4
  rw [h, q4.1]
  rcases (show rn r (8 + 6 * j + 4) = 0 ∨ rn r (8 + 6 * j + 4) = 1 by omega) with e | e <;> rw [e] <;> rfl
theorem op_then (h : RR n I A J B) (v k x : Int32) : OK n (sX9_then 0 v k x (cW I A tp)) (sX10_then 0 v k x (mW J B)) := by
  obtain ⟨c, hc8, hcB, hcI⟩ := h.many
  by_cases hv : inR v 0 60
  · have hv2 := hv
    obtain ⟨q, -, q2, rfl⟩ := hv
    by_cases hp : isP k c
    · obtain ⟨j, hj, rfl⟩ := hp
      have hj8 : j < 8 := by omega
      by_cases hx : inR x 0 1
      · have hx2 := hx
        obtain ⟨y, -, y1, rfl⟩ := hx
        obtain ⟨g0, g1, hM, hC⟩ := h.laws
        have hcr : rn (B 1) 2 = c := rn_of hcB (by omega)
        obtain ⟨B1, e1, t1⟩ := m_th0 (J := J) (B := B)
        obtain ⟨J2, B2, e2, hk⟩ := m_passes (J := J) (B := B1) hM (q := q) (by omega) t1.2.1
        obtain ⟨B3, e3, t3⟩ := m_thb t1 hk.1 hk.2.1 hk.2.2 (rt_far226 hM.1)
        rcases (show y = 0 ∨ y = 1 by omega) with rfl | rfl
        · obtain ⟨I', A', f1, fk⟩ := c_farBehind (tp := tp) (w := I 7) (q := q) (hC j hj8) hj8 (by omega)
          have hres : sX10_then 0 (nI q) (nI j) (nI 0) (mW J B) = some (nI (fT g0 (B 1) j q), mW J2 B3) := by
            rw [sX10_then, if_pos (m_is J B), mT_0_60 hv2, ab_b2_some, if_neg (by decide), m_isP_T hcB hj hc8, ab_b2_some, if_neg (by decide), mT_0_1 hx2, ab_b2_some, if_neg (by decide), m_R0, Option.bind_some, m_R2, Option.bind_some, e1, Option.bind_some, e2, Option.bind_some, if_pos (by decide), sX10_then_62, m_i5 hj8, ab_b2_some, hk.2.1, rt_far (by omega), if_neg (by omega), m_R2, Option.bind_some, m_R0, Option.bind_some, e3]
            rfl
          refine ok_same (tp := tp) (nI (fT g0 (B 1) j q)) h ?_ hres fk.cE t3.mE
          rw [sX9_then, if_pos (c_is0 I A tp), cT_0_60 hv2, ab_b2_some, if_neg (by decide), c_R0_3, Option.bind_some, c_has_T hcI hj hc8, ab_b2_some, if_neg (by decide), cT_0_1 hx2, ab_b2_some, if_neg (by decide), if_pos (by decide), c_R0_5, Option.bind_some, c_R0_3, Option.bind_some, c_R0_2, Option.bind_some, Option.bind_some, c_I17_6, Option.bind_some, f1, ab_b2_some, (hC j hj8).2.1, fT]
        · obtain ⟨I', A', f1, fk, -⟩ := c_debtBehind (tp := tp) (q := q) (decide (rn (B 1) (8 + 6 * j + 4) = 1)) (hC j hj8) hj8 (by omega)
          have hres : sX10_then 0 (nI q) (nI j) (nI 1) (mW J B) = some (nI (dT g0 g1 (B 1) j q), mW J2 B3) := by
            rw [sX10_then, if_pos (m_is J B), mT_0_60 hv2, ab_b2_some, if_neg (by decide), m_isP_T hcB hj hc8, ab_b2_some, if_neg (by decide), mT_0_1 hx2, ab_b2_some, if_neg (by decide), m_R0, Option.bind_some, m_R2, Option.bind_some, e1, Option.bind_some, e2, Option.bind_some, if_neg (by decide), sX10_then_62, m_i2 hj8, ab_b2_some, hk.2.1, rt_debt (by omega), if_neg (by omega), m_R2, Option.bind_some, m_R0, Option.bind_some, e3]
            rfl
          refine ok_same (tp := tp) (nI (dT g0 g1 (B 1) j q)) h ?_ hres fk.cE t3.mE
          rw [sX9_then, if_pos (c_is0 I A tp), cT_0_60 hv2, ab_b2_some, if_neg (by decide), c_R0_3, Option.bind_some, c_has_T hcI hj hc8, ab_b2_some, if_neg (by decide), cT_0_1 hx2, ab_b2_some, if_neg (by decide), if_neg (by decide), c_R0_5, Option.bind_some, c_R0_3, Option.bind_some, c_R0_2, Option.bind_some, Option.bind_some, c_R17_0, Option.bind_some, c_Q18 I A tp hj8, Option.bind_some, c_pI I A tp hj8 4 (by decide), Option.bind_some, up_bI hM.1 hj8 ((hC j hj8).2.2.1 4 (by decide)), f1, ab_b2_some, dT]
      · refine ok_err (tp := tp) (-1000000001) 1 (by decide) h ?_ ?_
        · rw [sX9_then, if_pos (c_is0 I A tp), cT_0_60 hv2, ab_b2_some, if_neg (by decide), c_R0_3, Option.bind_some, c_has_T hcI hj hc8, ab_b2_some, if_neg (by decide), cF_0_1 hx]
          rfl
        · rw [sX10_then, if_pos (m_is J B), mT_0_60 hv2, ab_b2_some, if_neg (by decide), m_isP_T hcB hj hc8, ab_b2_some, if_neg (by decide), mF_0_1 hx]
          rfl
    · refine ok_err (tp := tp) (-1000000001) 1 (by decide) h ?_ ?_
      · rw [sX9_then, if_pos (c_is0 I A tp), cT_0_60 hv2, ab_b2_some, if_neg (by decide), c_R0_3, Option.bind_some, c_has_F hcI hc8 hp]
        rfl
      · rw [sX10_then, if_pos (m_is J B), mT_0_60 hv2, ab_b2_some, if_neg (by decide), m_isP_F hcB hc8 hp]
        rfl
  · refine ok_err (tp := tp) (-1000000001) 1 (by decide) h ?_ ?_
    · rw [sX9_then, if_pos (c_is0 I A tp), cF_0_60 hv]
      rfl
    · rw [sX10_then, if_pos (m_is J B), mF_0_60 hv]
      rfl
theorem c_owed_6 {g0 g1 : Int32 → Int32 → Int32 → Nat} {r : Nat → Int32} {q : Nat} (hr : rowOk r) (hq : q ≤ 100) (hE : ∀ j, j < 8 → EC j I A r g0 g1) (h2 : I 2 = nI (rn r 2)) : ∀ (m j k : Nat) (I1 : Nat → Int32) (A1 : Nat → Nat → Int32), j + m = rn r 2 → cK I A I1 A1 → ∃ I' A', sX7_debtOfAllBehind_6 (k + m + 1) 55 17 11 (nI q) (dsum (rt g0 g1 r q 0) j) (nI j) (cW I1 A1 tp) = some (dsum (rt g0 g1 r q 0) (rn r 2), cW I' A' tp) ∧ cK I A I' A' := by
  have c2 := (rn_c hr).2
  intro m
  induction m with
  | zero =>
    intro j k I1 A1 hj hk
    have : j = rn r 2 := by omega
    subst this
    refine ⟨I1, A1, ?_, hk⟩
    rw [sX7_debtOfAllBehind_6, c_I17_4, Option.bind_some, hk.1 2 (by omega), h2, if_neg (nI_nlt (by omega) (by omega))]
  | succ m ih =>
    intro j k I1 A1 hj hk
    have hj8 : j < 8 := by omega
    have Ej := (hE j hj8).cong hj8 (fun i hi => hk.1 i (by omega)) hk.2
    obtain ⟨I2, A2, e, kk, -⟩ := c_debtBehind (tp := tp) (q := q) (decide (rn r (8 + 6 * j + 4) = 1)) Ej hj8 hq
    rw [show k + (m + 1) + 1 = (k + m + 1) + 1 by omega, sX7_debtOfAllBehind_6, c_I17_4, Option.bind_some, hk.1 2 (by omega), h2, if_pos (nI_lt (by omega) (by omega)), c_R17_0, Option.bind_some, c_Q18 _ _ _ hj8, Option.bind_some, c_pI _ _ _ hj8 4 (by decide), Option.bind_some, up_bI hr hj8 (Ej.2.2.1 4 (by decide)), e, ab_b2_some, nI_1, ← dT]
    have e3 : dsum (rt g0 g1 r q 0) j + nI (dT g0 g1 r j q) = dsum (rt g0 g1 r q 0) (j + 1) := by rw [dsum, rt_debt (by omega), if_neg (by omega)]
    rw [e3]
    exact ih (j + 1) k I2 A2 (by omega) (hk.trans kk)
theorem op_owed (h : RR n I A J B) (v : Int32) : OK n (sX9_owed 0 v (cW I A tp)) (sX10_owed 0 v (mW J B)) := by
  by_cases hv : inR v 0 60
  · have hv2 := hv
    obtain ⟨q, -, q2, rfl⟩ := hv
    obtain ⟨g0, g1, hM, hC⟩ := h.laws
    obtain ⟨c1, c2⟩ := rn_c hM.1
    obtain ⟨B1, e1, t1⟩ := m_th0 (J := J) (B := B)
    obtain ⟨J2, B2, e2, hk⟩ := m_passes (J := J) (B := B1) hM (q := q) (by omega) t1.2.1
    obtain ⟨B3, e3, t3⟩ := m_thb t1 hk.1 hk.2.1 hk.2.2 (rt_far226 hM.1)
    obtain ⟨I', A', f1, fk⟩ := c_owed_6 (tp := tp) (q := q) hM.1 (by omega) hC (by rw [h.at (i := 2) (by unfold okI; omega)]; exact c1) (rn (B 1) 2) 0 (999 - rn (B 1) 2) I A (by omega) (cK.refl I A)
    rw [show 999 - rn (B 1) 2 + rn (B 1) 2 + 1 = 1000 by omega] at f1
    refine ok_same (tp := tp) (dsum (rt g0 g1 (B 1) q 0) (rn (B 1) 2)) h ?_ ?_ fk.cE t3.mE
    · rw [sX9_owed, if_pos (c_is0 I A tp), cT_0_60 hv2, ab_b2_some, if_neg (by decide), c_R0_5, Option.bind_some, c_R0_3, Option.bind_some, c_R0_2, Option.bind_some, sX7_debtOfAllBehind, if_pos (c_is55 I A tp), show sX7_debtOfAllBehind_6 1000 55 17 11 (nI q) 0 0 (cW I A tp) = _ from f1]
      rfl
    · rw [sX10_owed, if_pos (m_is J B), mT_0_60 hv2, ab_b2_some, if_neg (by decide), m_R0, Option.bind_some, m_R2, Option.bind_some, e1, Option.bind_some, e2, Option.bind_some, m_allDebt c2 (by rw [hk.2.1, rt_else (by decide) (by omega)]; exact c1), ab_b2_some, hk.2.1, m_R2, Option.bind_some, m_R0, Option.bind_some, e3]
      rfl
  · refine ok_err (tp := tp) (-1000000001) 1 (by decide) h ?_ ?_
    · rw [sX9_owed, if_pos (c_is0 I A tp), cF_0_60 hv]
      rfl
    · rw [sX10_owed, if_pos (m_is J B), mF_0_60 hv]
      rfl
/-! check -/
theorem c_fill57 (f : Nat → Int32) : ∀ (m j k : Nat), j + m = 20 → sJ7_fill_53178_5 (k + m + 1) 57 0 (nI j) (nI 20) (cW I (upB A 57 (zf f j)) tp) = some (cW I (upB A 57 (zf f 20)) tp) := by
  intro m
  induction m with
  | zero =>
    intro j k hj
    have : j = 20 := by omega
    subst this
    rw [sJ7_fill_53178_5, if_neg (by decide)]
  | succ m ih =>
    intro j k hj
    rw [show k + (m + 1) + 1 = (k + m + 1) + 1 by omega, sJ7_fill_53178_5, if_pos (nI_lt (by omega) (by decide)), c_S57 _ _ _ _ (by omega), Option.bind_some, upB_up2, zf_step, nI_1]
    exact ih (j + 1) k (by omega)
def cS (I : Nat → Int32) (A : Nat → Nat → Int32) (I' : Nat → Int32) (A' : Nat → Nat → Int32) : Prop := (∀ i, ¬ (414 ≤ i ∧ i ≤ 418) → I' i = I i) ∧ ∀ k, k ≠ 32 → k ≠ 35 → k ≠ 57 → A' k = A k
theorem cS.trans {I I' I'' : Nat → Int32} {A A' A'' : Nat → Nat → Int32} (h : cS I A I' A') (h' : cS I' A' I'' A'') : cS I A I'' A'' := ⟨fun i hi => (h'.1 i hi).trans (h.1 i hi), fun k a b c => (h'.2 k a b c).trans (h.2 k a b c)⟩
theorem cK.cS {I I' : Nat → Int32} {A A' : Nat → Nat → Int32} (h : cK I A I' A') : cS I A I' A' := ⟨h.1, fun k a b _ => h.2 k a b⟩
theorem cS.cE {I I' : Nat → Int32} {A A' : Nat → Nat → Int32} (h : cS I A I' A') : cE I A I' A' := ⟨fun i hi => h.1 i (by unfold iJ at hi; omega), fun k hk => h.2 k (by unfold aJ at hk; omega) (by unfold aJ at hk; omega) (by unfold aJ at hk; omega)⟩
theorem EC.congS {j : Nat} {I I' : Nat → Int32} {A A' : Nat → Nat → Int32} {r : Nat → Int32} {g0 g1 : Int32 → Int32 → Int32 → Nat} (h : EC j I A r g0 g1) (hj : j < 8) (hS : cS I A I' A') : EC j I' A' r g0 g1 := by
  obtain ⟨h0, h7, hq, hr, a, b, l0, l1, ht⟩ := h
  refine ⟨by rw [hS.1 0 (by omega)]; exact h0, by rw [hS.1 7 (by omega)]; exact h7, fun q q6 => by rw [hS.1 _ (by omega)]; exact hq q q6, hr, a, b, ?_, ?_, ?_⟩
  · rw [hS.1 5 (by omega), hS.2 31 (by decide) (by decide) (by decide)]; exact l0
  · rw [hS.1 6 (by omega), hS.2 34 (by decide) (by decide) (by decide)]; exact l1
  · rw [hS.2 12 (by decide) (by decide) (by decide), hS.2 13 (by decide) (by decide) (by decide)]; exact ht
theorem c_wrong_42 {k10 : Nat → Nat → Nat → Int32 → ab_W → Option (Int32 × ab_W)} {g0 g1 : Int32 → Int32 → Int32 → Nat} {r : Nat → Int32} {j W : Nat} (hr : rowOk r) (hj : j < rn r 2) (hW : W ≤ 20) : ∀ (m x k : Nat) (I1 : Nat → Int32) (A1 : Nat → Nat → Int32), x + m = W → EC j I1 A1 r g0 g1 → I1 4 = nI W → FS I1 (decide (rn r (8 + 6 * j + 4) = 1)) (decide (rn r (8 + 6 * j + 0) = 5)) (str g0 (rn r (8 + 6 * j + 0)) (rn r (8 + 6 * j + 3)) (r 7)) (fT g0 r j x) (dT g0 g1 r j x) → (∀ y, y < W → A1 57 y = dsum (rt g0 g1 r (y + 1) 0) (if y < x then j + 1 else j)) → ∃ I' A', sX7_firstWrong_42 k10 (k + m + 1) 55 17 11 (nI j) (nI x) (cW I1 A1 tp) = k10 55 17 11 (nI (j + 1)) (cW I' A' tp) ∧ cS I1 A1 I' A' ∧ ∀ y, y < W → A' 57 y = dsum (rt g0 g1 r (y + 1) 0) (j + 1) := by
  obtain ⟨c1, c2⟩ := rn_c hr
  obtain ⟨d1, d2⟩ := rn_d hr
  have hj8 : j < 8 := by omega
  have q3 := rn_p hr (j := j) (q := 3) hj8 (by decide)
  have q5 := rn_p hr (j := j) (q := 5) hj8 (by decide)
  have q2 := rn_p hr (j := j) (q := 2) hj8 (by decide)
  simp only [List.getD_cons_zero, List.getD_cons_succ] at q3 q5 q2
  intro m
  induction m with
  | zero =>
    intro x k I1 A1 hx hE h4 hF hA
    have : x = W := by omega
    subst this
    refine ⟨I1, A1, ?_, (cK.refl I1 A1).cS, fun y hy => by rw [hA y hy, if_pos hy]⟩
    rw [sX7_firstWrong_42, c_I17_8, Option.bind_some, h4, if_neg (nI_nlt (by omega) (by omega)), nI_1]
  | succ m ih =>
    intro x k I1 A1 hx hE h4 hF hA
    have hs := str_le (kd := rn r (8 + 6 * j + 0)) (c := rn r (8 + 6 * j + 3)) (w := r 7) hE.2.2.2.2.1 (by omega)
    obtain ⟨I2, A2, e, kk, hF2⟩ := c_lapse (A := A1) (tp := tp) (g1 := g1) (e := rn r 0 + x) hF (fT_le hr hj8) (by omega) (dT_le hr hj8) (by omega) hE.2.2.2.2.2.1 hE.2.2.2.2.2.2.2.1
    have ef : (if (decide (rn r (8 + 6 * j + 4) = 1) && !(decide (rn r (8 + 6 * j + 0) = 5) && (rn r 0 + x) % 5 == 0)) = true then min 999 (fT g0 r j x + str g0 (rn r (8 + 6 * j + 0)) (rn r (8 + 6 * j + 3)) (r 7)) else fT g0 r j x) = fT g0 r j (x + 1) := by
      rw [fT, fT, fg]
    rw [ef] at hF2
    have ed : (if decide (rn r (8 + 6 * j + 4) = 1) = true then dT g0 g1 r j x - g1 (nI (dT g0 g1 r j x)) (nI (fT g0 r j (x + 1))) (nI ((rn r 0 + x) % 7)) else dT g0 g1 r j x) = dT g0 g1 r j (x + 1) := by
      rw [dT, dT, fT, dg]
    rw [ed] at hF2
    have a57 : A2 57 x = dsum (rt g0 g1 r (x + 1) 0) j := by rw [kk.2 57 (by decide) (by decide), hA x (by omega), if_neg (by omega)]
    have e57 : dsum (rt g0 g1 r (x + 1) 0) j + nI (dT g0 g1 r j (x + 1)) = dsum (rt g0 g1 r (x + 1) 0) (j + 1) := by rw [dsum, rt_debt hj, if_neg (by omega)]
    have kS : cS I1 A1 I2 (up2 A2 57 x (dsum (rt g0 g1 r (x + 1) 0) (j + 1))) := ⟨kk.1, fun k a b c => by rw [up2_ne c]; exact kk.2 k a b⟩
    obtain ⟨I', A', f1, f2, f3⟩ := ih (x + 1) k I2 (up2 A2 57 x (dsum (rt g0 g1 r (x + 1) 0) (j + 1))) (by omega) (hE.congS hj8 kS) (by rw [kk.1 4 (by omega)]; exact h4) hF2 (fun y hy => by
      rw [up2_at]
      by_cases ey : y = x
      · subst ey; rw [upd_same, if_pos (by omega)]
      · rw [upd_ne ey, kk.2 57 (by decide) (by decide), hA y hy]
        by_cases h1 : y < x
        · rw [if_pos h1, if_pos (by omega)]
        · rw [if_neg h1, if_neg (by omega)])
    refine ⟨I', A', ?_, kS.trans f2, f3⟩
    rw [show k + (m + 1) + 1 = (k + m + 1) + 1 by omega, sX7_firstWrong_42, c_I17_8, Option.bind_some, h4, if_pos (nI_lt (by omega) (by omega)), c_R55_4, Option.bind_some, c_I17_5, Option.bind_some, hE.1, d1, nI_add, e, Option.bind_some, c_R55_5, Option.bind_some, c_A57 _ _ _ (by omega), Option.bind_some, c_R55_4, Option.bind_some, c_I56_1, Option.bind_some, c_S57 _ _ _ _ (by omega), Option.bind_some, nI_1, a57, hF2.2.1, e57]
    exact f1
theorem c_wrong_10 {g0 g1 : Int32 → Int32 → Int32 → Nat} {r : Nat → Int32} {W : Nat} (hr : rowOk r) (hW : W ≤ 20) (hE : ∀ j, j < 8 → EC j I A r g0 g1) (h2 : I 2 = nI (rn r 2)) (h4 : I 4 = nI W) : ∀ (m j k : Nat) (I1 : Nat → Int32) (A1 : Nat → Nat → Int32), j + m = rn r 2 → cS I A I1 A1 → (∀ y, y < W → A1 57 y = dsum (rt g0 g1 r (y + 1) 0) j) → ∃ I' A', sX7_firstWrong_10 (k + m + 1) 55 17 11 (nI j) (cW I1 A1 tp) = sX7_firstWrong_97 1000 55 17 0 (cW I' A' tp) ∧ cS I A I' A' ∧ ∀ y, y < W → A' 57 y = dsum (rt g0 g1 r (y + 1) 0) (rn r 2) := by
  have c2 := (rn_c hr).2
  intro m
  induction m with
  | zero =>
    intro j k I1 A1 hj hS hA
    have : j = rn r 2 := by omega
    subst this
    refine ⟨I1, A1, ?_, hS, hA⟩
    rw [sX7_firstWrong_10, c_I17_4, Option.bind_some, hS.1 2 (by omega), h2, if_neg (nI_nlt (by omega) (by omega))]
  | succ m ih =>
    intro j k I1 A1 hj hS hA
    have hj8 : j < 8 := by omega
    have Ej := (hE j hj8).congS hj8 hS
    obtain ⟨I2, A2, e, kk, hF⟩ := c_follow (tp := tp) (decide (rn r (8 + 6 * j + 4) = 1)) Ej hj8
    obtain ⟨I3, A3, e3, k3, a3⟩ := c_wrong_42 (tp := tp) (k10 := sX7_firstWrong_10 (k + m + 1)) (g0 := g0) (g1 := g1) (j := j) (W := W) hr (by omega) hW W 0 (999 - W) I2 A2 (by omega) (Ej.congS hj8 kk.cS) (by rw [kk.1 4 (by omega), hS.1 4 (by omega)]; exact h4) hF (fun y hy => by rw [kk.2 57 (by decide) (by decide), hA y hy, if_neg (by omega)])
    rw [show 999 - W + W + 1 = 1000 by omega] at e3
    obtain ⟨I', A', f1, f2, f3⟩ := ih (j + 1) k I3 A3 (by omega) ((hS.trans kk.cS).trans k3) a3
    refine ⟨I', A', ?_, f2, f3⟩
    rw [show k + (m + 1) + 1 = (k + m + 1) + 1 by omega, sX7_firstWrong_10, c_I17_4, Option.bind_some, hS.1 2 (by omega), h2, if_pos (nI_lt (by omega) (by omega)), c_R17_0, Option.bind_some, c_Q18 _ _ _ hj8, Option.bind_some, c_pI _ _ _ hj8 4 (by decide), Option.bind_some, up_bI hr hj8 (Ej.2.2.1 4 (by decide)), e, Option.bind_some, show sX7_firstWrong_42 (sX7_firstWrong_10 (k + m + 1)) 1000 55 17 11 (nI j) 0 (cW I2 A2 tp) = _ from e3]
    exact f1
theorem cm_check {g0 g1 : Int32 → Int32 → Int32 → Nat} {W : Nat} (hM : EM (B 1) g0 g1) (hW : W ≤ 20) (h4 : I 4 = nI W) (hA : ∀ y, y < W → A 57 y = dsum (rt g0 g1 (B 1) (y + 1) 0) (rn (B 1) 2)) (hw : ∀ y, y < 20 → A 21 y = B 1 (106 + y)) : ∀ (m x k : Nat) (J1 : Nat → Int32) (B1 B0 : Nat → Nat → Int32), x + m = W → TH J B J1 B0 → B1 1 = rt g0 g1 (B 1) x 0 → (∀ k, k ≠ 1 → k ≠ 6 → B1 k = B0 k) → ∃ v J' B', sX7_firstWrong_97 (k + m + 1) 55 17 (nI x) (cW I A tp) = some (v, cW I A tp) ∧ sX10_check_30 (k + m + 1) 0 (nI W) (nI x) 1 (mW J1 B1) = some (v + 1, mW J' B') ∧ TH J B J' B' := by
  obtain ⟨c1, c2⟩ := rn_c hM.1
  intro m
  induction m with
  | zero =>
    intro x k J1 B1 B0 hx hT h1 hB
    have : x = W := by omega
    subst this
    obtain ⟨B3, e3, t3⟩ := m_thb hT (mJ.refl J1) h1 hB (rt_far226 hM.1)
    refine ⟨-1, J1, B3, ?_, ?_, t3⟩
    · rw [sX7_firstWrong_97, c_I17_8, Option.bind_some, h4, if_neg (nI_nlt (by omega) (by omega))]
    · rw [sX10_check_30, if_neg (nI_nlt (by omega) (by omega)), sX10_check_80, m_R2, Option.bind_some, m_R0, Option.bind_some, e3]
      rfl
  | succ m ih =>
    intro x k J1 B1 B0 hx hT h1 hB
    obtain ⟨J2, B2, e2, a1, a2, a3⟩ := m_oneDay (J := J1) (B := B1) hM (t := x) (by omega) h1
    have hT2 : TH J B J2 B0 := ⟨hT.1.trans a1, hT.2⟩
    have hB2 : ∀ k, k ≠ 1 → k ≠ 6 → B2 k = B0 k := fun k p q => (a3 k p q).trans (hB k p q)
    have b2 : B2 1 2 = nI (rn (B 1) 2) := by rw [a2, rt_else (by decide) (by omega)]; exact c1
    have bw : B2 1 (106 + x) = B 1 (106 + x) := by rw [a2, rt_else (by omega) (by omega)]
    rw [show k + (m + 1) + 1 = (k + m + 1) + 1 by omega, sX10_check_30, if_pos (nI_lt (by omega) (by omega)), if_neg (by decide), e2, Option.bind_some, m_allDebt c2 b2, ab_b2_some, m_R0, Option.bind_some, show (106 + nI x : Int32) = nI (106 + x) from nI_add 106 x, m_A1 _ _ (by omega), Option.bind_some, bw, a2]
    rw [sX7_firstWrong_97, c_I17_8, Option.bind_some, h4, if_pos (nI_lt (by omega) (by omega)), c_R17_3, Option.bind_some, c_A21 _ _ _ (by omega), Option.bind_some, c_R55_5, Option.bind_some, c_A57 _ _ _ (by omega), Option.bind_some, hA x (by omega), hw x (by omega)]
    by_cases he : B 1 (106 + x) = dsum (rt g0 g1 (B 1) (x + 1) 0) (rn (B 1) 2)
    · rw [if_pos he, if_pos he.symm, sX10_check_64, if_neg (by decide), sX10_check_75, nI_1]
      exact ih (x + 1) k J2 B2 B0 (by omega) hT2 a2 hB2
    · rw [if_neg he, if_neg (fun e => he e.symm), sX10_check_64, if_pos rfl, sX10_check_75, Int32.add_zero, sX10_check_30, if_pos (nI_lt (by omega) (by omega)), if_pos rfl]
      obtain ⟨B3, e3, t3⟩ := m_thb hT2 (mJ.refl J2) a2 hB2 (rt_far226 hM.1)
      refine ⟨nI x, J2, B3, rfl, ?_, t3⟩
      rw [sX10_check_80, m_R2, Option.bind_some, m_R0, Option.bind_some, e3, Option.bind_some, if_pos rfl, Int32.add_comm]
theorem op_check (h : RR n I A J B) : OK n (sX9_check 0 (cW I A tp)) (sX10_check 0 (mW J B)) := by
  obtain ⟨W, hW, wB, wI⟩ := h.val (i := 4) (by unfold okI; omega) (by decide)
  have hW : W ≤ 20 := hW
  have h1 := h.desk (i := 4) (v := 0) (by unfold okI; omega) (Or.inr inN_0)
  obtain ⟨g0, g1, hM, hC⟩ := h1.laws
  obtain ⟨c1, c2⟩ := rn_c hM.1
  have r4 : ∀ i, i ≠ 4 → up2 B 1 4 0 1 i = B 1 i := fun i hi => by rw [up2_at, upd_ne hi]
  have hC' : ∀ j, j < 8 → EC j I (upB A 57 (zf (A 57) 20)) (up2 B 1 4 0 1) g0 g1 := by
    intro j hj
    obtain ⟨e0, e7, eq, e4, ea, eb, l0, l1, ht⟩ := hC j hj
    rw [upd_ne (by decide)] at e0 e7 l0 l1
    exact ⟨e0, e7, fun q q6 => by rw [← eq q q6, upd_ne (by omega)], e4, ea, eb, l0, l1, ht⟩
  obtain ⟨I1, A1, f1, f2, f3⟩ := c_wrong_10 (tp := tp) (W := W) hM.1 hW hC' (by rw [h.at (i := 2) (by unfold okI; omega), ← r4 2 (by decide)]; exact c1) wI (rn (up2 B 1 4 0 1) 2) 0 (999 - rn (up2 B 1 4 0 1) 2) I (upB A 57 (zf (A 57) 20)) (by omega) (cK.refl _ _).cS (fun y hy => by rw [upB_at, zf, if_pos (by omega)]; rfl)
  rw [show 999 - rn (up2 B 1 4 0 1) 2 + rn (up2 B 1 4 0 1) 2 + 1 = 1000 by omega] at f1
  obtain ⟨B0, e1, t1⟩ := m_th0 (J := J) (B := up2 B 1 4 0)
  obtain ⟨v, J', B', g1', g2', g3'⟩ := cm_check (I := I1) (A := A1) (J := J) (B := up2 B 1 4 0) (tp := tp) (W := W) hM hW (by rw [f2.1 4 (by omega)]; exact wI) f3 (fun y hy => by rw [f2.2 21 (by decide) (by decide) (by decide), upB_ne (by decide), r4 _ (by omega)]; exact h.1.2.2.1 y hy) W 0 (999 - W) J B0 B0 (by omega) t1 (by rw [rt_0 hM.1]; exact t1.2.1) (fun _ _ _ => rfl)
  rw [show 999 - W + W + 1 = 1000 by omega] at g1' g2'
  refine ⟨v + 1, upd I1 4 0, A1, tp, J', B', ?_, ?_, (h1.congr ⟨fun i hi => ?_, fun k hk => ?_⟩ g3'.mE).mono⟩
  · have fl := c_fill57 (I := I) (A := A) (tp := tp) (A 57) 20 0 979 rfl
    rw [zf_0, upB_id] at fl
    rw [sX9_check, if_pos (c_is0 I A tp), c_R0_5, Option.bind_some, c_R0_3, Option.bind_some, c_R0_2, Option.bind_some, sX7_firstWrong, if_pos (c_is55 I A tp), c_R55_5, Option.bind_some, sJ7_fill_53178, c_N57, Option.bind_some, show sJ7_fill_53178_5 1000 57 0 0 (nI 20) (cW I A tp) = _ from fl]
    rw [Option.bind_some, show sX7_firstWrong_10 1000 55 17 11 0 (cW I (upB A 57 (zf (A 57) 20)) tp) = _ from f1, show sX7_firstWrong_97 1000 55 17 0 (cW I1 A1 tp) = _ from g1', ab_b2_some, c_R0_3, Option.bind_some, c_P17_8, Option.bind_some]
  · rw [sX10_check, if_pos (m_is J B), m_R0, Option.bind_some, show ab_ald (mW J B) 1 4 = some (B 1 4) from rfl, Option.bind_some, Option.bind_some, show ab_ast (mW J B) 1 4 0 = some (mW J (up2 B 1 4 0)) from rfl, Option.bind_some, m_R0, Option.bind_some, m_R2, Option.bind_some, e1, Option.bind_some, wB]
    exact g2'
  · by_cases e : i = 4
    · subst e; rw [upd_same, upd_same]
    · rw [upd_ne e, upd_ne e]; exact f2.1 i (by unfold iJ at hi; omega)
  · rw [f2.2 k (by unfold aJ at hk; omega) (by unfold aJ at hk; omega) (by unfold aJ at hk; omega), upB_ne (by unfold aJ at hk; omega)]
end OP
