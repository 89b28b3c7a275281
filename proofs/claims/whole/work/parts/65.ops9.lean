section OP
variable {n : Nat} {I J : Nat → Int32} {A B : Nat → Nat → Int32} {tp : Nat}
/-- the desk's row is another one -/
theorem RR.row {I' J' : Nat → Int32} {A' B' : Nat → Nat → Int32} (h : RR n I A J B) (hI : ∀ i, i = 5 ∨ i = 6 ∨ 56 ≤ i → ¬ iJ i → I' i = I i) (hA : ∀ k, ¬ aJ k → A' k = A k) (hJ : mJ J J') (hB : ∀ k, k ≠ 1 → ¬ bJ k → B' k = B k) (he : ∀ i, okI i → I' i = B' 1 i) (hr : rowOk (B' 1)) (hx : ∀ i, i = 5 ∨ i = 6 ∨ 56 ≤ i → B' 1 i = B 1 i) : RR n I' A' J' B' := by
  obtain ⟨⟨d1, d2, d3, d4, ⟨g0, ga, l0, c0⟩, ⟨g1, gb, l1, c1⟩⟩, h2, h3, h4, h5, k1, k2⟩ := h
  obtain ⟨j4, j5, j22⟩ := hJ
  have a : ∀ k, k = 1 ∨ k = 12 ∨ k = 13 ∨ k = 19 ∨ k = 21 ∨ k = 31 ∨ k = 34 ∨ k = 38 ∨ k = 40 ∨ k = 50 ∨ k = 53 ∨ k = 64 ∨ k = 4 ∨ k = 6 ∨ k = 8 ∨ k = 10 → A' k = A k := fun k hk => hA k (by unfold aJ; omega)
  refine ⟨⟨he, fun j hj => ?_, fun j hj => ?_, hr, ⟨g0, ga, ?_, ?_⟩, ⟨g1, gb, ?_, ?_⟩⟩, ?_, fun s hs => ?_, ?_, ?_, ?_, ?_⟩
  · rw [a 19 (by omega), hx _ (by omega)]; exact d2 j hj
  · rw [a 21 (by omega), hx _ (by omega)]; exact d3 j hj
  · rw [hx 5 (by omega)]; exact l0.congr (fun j hj => hx _ (by omega))
  · rw [hI 5 (by omega) (by unfold iJ; omega), a 31 (by omega)]; exact c0
  · rw [hx 6 (by omega)]; exact l1.congr (fun j hj => hx _ (by omega))
  · rw [hI 6 (by omega) (by unfold iJ; omega), a 34 (by omega)]; exact c1
  · rw [a 1 (by omega), hB 5 (by decide) (by simp [bJ])]; exact h2
  · obtain ⟨g1, g2, g3, g4, g5⟩ := h3 s hs
    rw [hI _ (by omega) (by unfold iJ; omega), hI _ (by omega) (by unfold iJ; omega), hB 8 (by decide) (by simp [bJ]), hB 9 (by decide) (by simp [bJ]), hB 10 (by decide) (by simp [bJ]), a _ (by omega)]
    exact ⟨g1, g2, g3, g4, g5⟩
  · rw [a 12 (by omega), a 13 (by omega)]; exact h4
  · rw [hI 424 (by omega) (by unfold iJ; omega), a 64 (by omega), hB 12 (by decide) (by simp [bJ]), j22]; exact h5
  · rw [hI 408 (by omega) (by unfold iJ; omega), j5]; exact k1
  · rw [j4, j5, a 38 (by omega), a 40 (by omega), a 50 (by omega), a 53 (by omega), hB 2 (by decide) (by simp [bJ])]
    rcases k2 with k2 | ⟨k2, k3, k4⟩
    · exact Or.inl k2
    · exact Or.inr ⟨k2, k3, k4.congr (fun i hi => hI _ (by omega) (by unfold iJ; omega))⟩
/-- the laws of the two uses -/
theorem RR.laws (h : RR n I A J B) : ∃ g0 g1, EM (B 1) g0 g1 ∧ ∀ j, j < 8 → EC j I A (B 1) g0 g1 := by
  obtain ⟨⟨d1, d2, d3, d4, ⟨g0, ga, l0, c0⟩, ⟨g1, gb, l1, c1⟩⟩, h2, h3, h4, h5, h6⟩ := h
  exact ⟨g0, g1, ⟨d4, ga, gb, l0, l1⟩, fun j hj => ⟨d1 0 (by unfold okI; omega), d1 7 (by unfold okI; omega), fun q hq => d1 _ (okP hj hq), d4, ga, gb, c0, c1, h4⟩⟩
theorem rt_ok {g0 g1 : Int32 → Int32 → Int32 → Nat} {r : Nat → Int32} {q : Nat} (hr : rowOk r) (hq : rn r 0 + q ≤ 9999) : rowOk (rt g0 g1 r q 0) := by
  obtain ⟨c1, c2⟩ := rn_c hr
  intro i hi h1
  have hi2 := hi
  obtain ⟨i1, i2, i3⟩ := hi
  by_cases h0 : i = 0
  · subst h0
    exact ⟨_, hq, rt_day q 0⟩
  by_cases hf : 8 ≤ i ∧ i < 8 + 6 * rn r 2 ∧ i % 6 = 1
  · have e : i = 8 + 6 * ((i - 8) / 6) + 5 := by omega
    have hk : (i - 8) / 6 < 8 := by omega
    rw [e, (bndP hk).2.2.2.2.2, rt_far (by omega)]
    exact inN_nI (fT_le hr hk)
  by_cases hd : 8 ≤ i ∧ i < 8 + 6 * rn r 2 ∧ i % 6 = 4
  · have e : i = 8 + 6 * ((i - 8) / 6) + 2 := by omega
    have hk : (i - 8) / 6 < 8 := by omega
    rw [e, (bndP hk).2.2.1, rt_debt (by omega)]
    exact inN_nI (dT_le hr hk)
  rw [rt_else h0 (by omega)]
  exact hr i hi2 h1
theorem c_pass_3 {g0 g1 : Int32 → Int32 → Int32 → Nat} {r : Nat → Int32} {q : Nat} (hr : rowOk r) (hq : q ≤ 100) (hE : ∀ j, j < 8 → EC j I A r g0 g1) (h2 : I 2 = nI (rn r 2)) : ∀ (m j k : Nat) (I1 : Nat → Int32) (A1 : Nat → Nat → Int32), j + m = rn r 2 → (∀ i, i < 8 ∨ 8 + 6 * j ≤ i → ¬ (414 ≤ i ∧ i ≤ 418) → I1 i = I i) → (∀ k, k ≠ 32 → k ≠ 35 → A1 k = A k) → (∀ i, 8 ≤ i → i < 8 + 6 * j → I1 i = rt g0 g1 r q 0 i) → ∃ I' A', sX7_pass_3 (k + m + 1) 55 17 11 (nI q) (nI j) (cW I1 A1 tp) = some (cW I' A' tp) ∧ I' 0 = nI (rn r 0 + q) ∧ (∀ i, (1 ≤ i ∧ i < 8) ∨ 8 + 6 * rn r 2 ≤ i → ¬ (414 ≤ i ∧ i ≤ 418) → I' i = I i) ∧ (∀ k, k ≠ 32 → k ≠ 35 → A' k = A k) ∧ (∀ i, 8 ≤ i → i < 8 + 6 * rn r 2 → I' i = rt g0 g1 r q 0 i) := by
  obtain ⟨c1, c2⟩ := rn_c hr
  obtain ⟨d1, d2⟩ := rn_d hr
  have E0 := hE 0 (by decide)
  intro m
  induction m with
  | zero =>
    intro j k I1 A1 hj hI hA hp
    have : j = rn r 2 := by omega
    subst this
    refine ⟨upd I1 0 (nI (rn r 0 + q)), A1, ?_, upd_same _ _ _, fun i hi h4 => by rw [upd_ne (by omega)]; exact hI i (by omega) h4, hA, fun i a b => by rw [upd_ne (by omega)]; exact hp i a b⟩
    rw [sX7_pass_3, c_I17_4, Option.bind_some, hI 2 (by omega) (by omega), h2, if_neg (nI_nlt (by omega) (by omega)), c_I17_5, Option.bind_some, hI 0 (by omega) (by omega), E0.1, d1, nI_add, c_P17_5]
    rfl
  | succ m ih =>
    intro j k I1 A1 hj hI hA hp
    have hj8 : j < 8 := by omega
    have Ej : EC j I1 A1 r g0 g1 := by
      obtain ⟨e0, e7, eq, e4, ea, eb, l0, l1, ht⟩ := hE j hj8
      refine ⟨by rw [hI 0 (by omega) (by omega)]; exact e0, by rw [hI 7 (by omega) (by omega)]; exact e7, fun q q6 => by rw [hI _ (by omega) (by omega)]; exact eq q q6, e4, ea, eb, ?_, ?_, ?_⟩
      · rw [hI 5 (by omega) (by omega), hA 31 (by decide) (by decide)]; exact l0
      · rw [hI 6 (by omega) (by omega), hA 34 (by decide) (by decide)]; exact l1
      · rw [hA 12 (by decide) (by decide), hA 13 (by decide) (by decide)]; exact ht
    have q4 := rn_p hr (j := j) (q := 4) hj8 (by decide)
    simp only [List.getD_cons_zero, List.getD_cons_succ] at q4
    have u4 : I1 (8 + 6 * j + 4) = nI (rn r (8 + 6 * j + 4)) := by rw [Ej.2.2.1 4 (by decide)]; exact q4.1
    rw [show k + (m + 1) + 1 = (k + m + 1) + 1 by omega, sX7_pass_3, c_I17_4, Option.bind_some, hI 2 (by omega) (by omega), h2, if_pos (nI_lt (by omega) (by omega)), c_R17_0, Option.bind_some, c_Q18 _ _ _ hj8, Option.bind_some, c_pI _ _ _ hj8 4 (by decide), Option.bind_some, u4]
    have other : ∀ q', q' < 6 → q' ≠ 2 → q' ≠ 5 → rt g0 g1 r q 0 (8 + 6 * j + q') = I1 (8 + 6 * j + q') := fun q' a b c => by
      rw [rt_else (by omega) (by omega), Ej.2.2.1 q' a]
    by_cases hu : rn r (8 + 6 * j + 4) = 1
    · rw [hu, if_neg (by decide)]
      obtain ⟨I2, A2, e, kk, k4⟩ := c_debtBehind (tp := tp) (q := q) true Ej hj8 hq
      have ed : dg g1 true (decide (rn r (8 + 6 * j + 0) = 5)) (str g0 (rn r (8 + 6 * j + 0)) (rn r (8 + 6 * j + 3)) (r 7)) (rn r 0) (rn r (8 + 6 * j + 5)) (rn r (8 + 6 * j + 2)) q = dT g0 g1 r j q := by rw [dT, hu]; rfl
      have ef : fg true (decide (rn r (8 + 6 * j + 0) = 5)) (str g0 (rn r (8 + 6 * j + 0)) (rn r (8 + 6 * j + 3)) (r 7)) (rn r 0) (rn r (8 + 6 * j + 5)) q = fT g0 r j q := by rw [fT, hu]; rfl
      rw [ed] at e
      rw [ef] at k4
      rw [show sX7_debtBehind 55 17 11 (nI j) 1 (nI q) (cW I1 A1 tp) = _ from e, ab_b2_some, c_pP _ _ _ hj8 2 (by decide), Option.bind_some, c_R55_4, Option.bind_some, c_I56_0, Option.bind_some, c_pP _ _ _ hj8 5 (by decide), Option.bind_some, upd_ne (by omega), k4, sX7_pass_56, nI_1]
      refine ih (j + 1) k _ _ (by omega) (fun i hi h4 => ?_) (fun k a b => (kk.2 k a b).trans (hA k a b)) (fun i a b => ?_)
      · rw [upd_ne (by omega), upd_ne (by omega), kk.1 i h4]; exact hI i (by omega) h4
      · by_cases e5 : i = 8 + 6 * j + 5
        · subst e5; rw [upd_same, rt_far (by omega), if_neg (by omega)]
        · rw [upd_ne e5]
          by_cases e2 : i = 8 + 6 * j + 2
          · subst e2; rw [upd_same, rt_debt (by omega), if_neg (by omega)]
          · rw [upd_ne e2, kk.1 i (by omega)]
            by_cases hlt : i < 8 + 6 * j
            · exact hp i a hlt
            · obtain ⟨q', rfl⟩ : ∃ q', i = 8 + 6 * j + q' := ⟨i - (8 + 6 * j), by omega⟩
              exact (other q' (by omega) (by omega) (by omega)).symm
    · rw [show rn r (8 + 6 * j + 4) = 0 by omega, if_pos (by decide), sX7_pass_56, nI_1]
      refine ih (j + 1) k I1 A1 (by omega) (fun i hi h4 => hI i (by omega) h4) hA (fun i a b => ?_)
      by_cases hlt : i < 8 + 6 * j
      · exact hp i a hlt
      · obtain ⟨q', rfl⟩ : ∃ q', i = 8 + 6 * j + q' := ⟨i - (8 + 6 * j), by omega⟩
        by_cases e5 : q' = 5
        · subst e5
          rw [rt_far (by omega), if_neg (by omega), fT, show decide (rn r (8 + 6 * j + 4) = 1) = false from by simp [hu], fg_no, Ej.2.2.1 5 (by decide)]
          exact (rn_p hr hj8 (by decide)).1
        · by_cases e2 : q' = 2
          · subst e2
            rw [rt_debt (by omega), if_neg (by omega), dT, show decide (rn r (8 + 6 * j + 4) = 1) = false from by simp [hu], dg_no, Ej.2.2.1 2 (by decide)]
            exact (rn_p hr hj8 (by decide)).1
          · exact (other q' (by omega) e2 e5).symm
theorem RR.pass {q : Nat} {g0 g1 : Int32 → Int32 → Int32 → Nat} (h : RR n I A J B) (hM : EM (B 1) g0 g1) (hC : ∀ j, j < 8 → EC j I A (B 1) g0 g1) (hq : q ≤ 100) (hd : rn (B 1) 0 + q ≤ 9999) : ∃ I' A', sX7_pass 55 17 11 (nI q) (cW I A tp) = some (cW I' A' tp) ∧ ∀ J' B', mK J B J' B' (rt g0 g1 (B 1) q 0) → RR n I' A' J' B' := by
  obtain ⟨c1, c2⟩ := rn_c hM.1
  obtain ⟨I', A', e, i0, hI, hA, hp⟩ := c_pass_3 (tp := tp) (q := q) hM.1 hq hC (by rw [h.at (i := 2) (by unfold okI; omega)]; exact c1) (rn (B 1) 2) 0 (999 - rn (B 1) 2) I A (by omega) (fun _ _ _ => rfl) (fun _ _ _ => rfl) (fun i a b => absurd b (by omega))
  rw [show 999 - rn (B 1) 2 + rn (B 1) 2 + 1 = 1000 by omega] at e
  refine ⟨I', A', by rw [sX7_pass, if_pos (c_is55 I A tp)]; exact e, fun J' B' ⟨kJ, k1, kB⟩ => ?_⟩
  refine h.row (fun i hi hj => ?_) (fun k hk => hA k (by unfold aJ at hk; omega) (by unfold aJ at hk; omega)) kJ (fun k a b => kB k a (by unfold bJ at b; omega)) (fun i hi => ?_) (by rw [k1]; exact rt_ok hM.1 hd) (fun i hi => by rw [k1, rt_else (by omega) (by omega)])
  · exact hI i (by omega) (by unfold iJ at hj; omega)
  · rw [k1]
    have hi2 := hi.1
    by_cases h0 : i = 0
    · subst h0; rw [rt_day]; exact i0
    · by_cases hb : 8 ≤ i ∧ i < 8 + 6 * rn (B 1) 2
      · exact hp i hb.1 hb.2
      · rw [hI i (by omega) (by omega), rt_else h0 (by omega)]
        exact h.at hi
theorem op_days (h : RR n I A J B) (v : Int32) : OK n (sX9_days 0 v (cW I A tp)) (sX10_days 0 v (mW J B)) := by
  by_cases hv : inR v 1 60
  · have hv2 := hv
    obtain ⟨q, q1, q2, rfl⟩ := hv
    obtain ⟨g0, g1, hM, hC⟩ := h.laws
    obtain ⟨d1, d2⟩ := rn_d hM.1
    obtain ⟨c1, c2⟩ := rn_c hM.1
    have i0 : I 0 = nI (rn (B 1) 0) := by rw [h.at (i := 0) (by unfold okI; omega)]; exact d1
    have m0 : ab_ald (mW J B) 1 0 = some (nI (rn (B 1) 0)) := by rw [← d1]; rfl
    by_cases hlt : 9999 < rn (B 1) 0 + q
    · refine ok_err (tp := tp) (-1000000003) 3 (by decide) h ?_ ?_
      · rw [sX9_days, if_pos (c_is0 I A tp), cT_1_60 hv2, ab_b2_some, if_neg (by decide), c_R0_3, Option.bind_some, c_I17_5, Option.bind_some, i0, nI_add, if_pos (show (9999 : Int32) < nI (rn (B 1) 0 + q) from nI_lt (a := 9999) hlt (by omega))]
        rfl
      · rw [sX10_days, if_pos (m_is J B), mT_1_60 hv2, ab_b2_some, if_neg (by decide), m_R0, Option.bind_some, m0, Option.bind_some, nI_add, if_pos (show (9999 : Int32) < nI (rn (B 1) 0 + q) from nI_lt (a := 9999) hlt (by omega))]
        rfl
    · obtain ⟨I', A', e1, hR⟩ := h.pass (tp := tp) (q := q) hM hC (by omega) (by omega)
      obtain ⟨J', B', e2, hk⟩ := m_passes (J := J) (B := B) hM (q := q) (by omega) rfl
      have h' := hR J' B' hk
      have hc : B' 1 2 = nI (rn (B 1) 2) := by rw [hk.2.1, rt_else (by decide) (by omega)]; exact c1
      refine ⟨dsum (B' 1) (rn (B 1) 2), I', A', tp, J', B', ?_, ?_, h'.mono⟩
      · rw [sX9_days, if_pos (c_is0 I A tp), cT_1_60 hv2, ab_b2_some, if_neg (by decide), c_R0_3, Option.bind_some, c_I17_5, Option.bind_some, i0, nI_add, if_neg (show ¬ (9999 : Int32) < nI (rn (B 1) 0 + q) from nI_nlt (a := 9999) (by omega) (by omega)), c_R0_5, Option.bind_some, Option.bind_some, c_R0_2, Option.bind_some, e1, Option.bind_some, c_R0_3, Option.bind_some, c_debtOfAll c2 (by rw [h'.at (i := 2) (by unfold okI; omega)]; exact hc), h'.dsum c2]
        rfl
      · rw [sX10_days, if_pos (m_is J B), mT_1_60 hv2, ab_b2_some, if_neg (by decide), m_R0, Option.bind_some, m0, Option.bind_some, nI_add, if_neg (show ¬ (9999 : Int32) < nI (rn (B 1) 0 + q) from nI_nlt (a := 9999) (by omega) (by omega)), e2, Option.bind_some, m_allDebt c2 hc]
        rfl
  · refine ok_err (tp := tp) (-1000000001) 1 (by decide) h ?_ ?_
    · rw [sX9_days, if_pos (c_is0 I A tp), cF_1_60 hv]
      rfl
    · rw [sX10_days, if_pos (m_is J B), mF_1_60 hv]
      rfl
theorem shr8 (z : Int32) : ∃ k, k < 2 ^ 24 ∧ (z.toUInt32 >>> ((8 : Int32).toUInt32 &&& Int32.toUInt32 31)).toInt32 = nI k := by
  refine ⟨(z.toUInt32 >>> ((8 : Int32).toUInt32 &&& Int32.toUInt32 31)).toNat, ?_, ?_⟩
  · rw [UInt32.toNat_shiftRight, show ((8 : Int32).toUInt32 &&& Int32.toUInt32 31).toNat % 32 = 8 from rfl, Nat.shiftRight_eq_div_pow]
    have := z.toUInt32.toNat_lt
    omega
  · generalize z.toUInt32 >>> ((8 : Int32).toUInt32 &&& Int32.toUInt32 31) = u
    show Int32.ofUInt32 u = Int32.ofUInt32 (UInt32.ofNat u.toNat)
    rw [UInt32.ofNat_toNat]
theorem cm_loose {q : Nat} (hq : q ≤ 40) : ∀ (m i k : Nat) (I J : Nat → Int32) (A B : Nat → Nat → Int32), i + m = q → RR n I A J B → rn (B 1) 0 + m ≤ 9999 → ∃ v I' A' J' B', sX9_loose_39 (k + m + 1) 0 (nI q) (nI i) (cW I A tp) = some (v, cW I' A' tp) ∧ sX10_loose_40 (k + m + 1) 0 (nI q) (nI i) (mW J B) = some (v, mW J' B') ∧ RR n I' A' J' B' := by
  intro m
  induction m with
  | zero =>
    intro i k I J A B hi h hd
    have : i = q := by omega
    subst this
    obtain ⟨c, hc8, hcB, hcI⟩ := h.many
    refine ⟨dsum (B 1) c, I, A, J, B, ?_, ?_, h⟩
    · rw [sX9_loose_39, if_neg (nI_nlt (by omega) (by omega)), c_R0_3, Option.bind_some, c_debtOfAll hc8 hcI, h.dsum hc8]
      rfl
    · rw [sX10_loose_40, if_neg (nI_nlt (by omega) (by omega)), m_allDebt hc8 hcB]
      rfl
  | succ m ih =>
    intro i k I J A B hi h hd
    have z1 : I 1 = B 1 1 := h.at (i := 1) (by unfold okI; omega)
    obtain ⟨x, hx, ex⟩ := shr8 (B 1 1 * 1103515245 + 12345)
    have h1 := (h.desk (i := 1) (v := B 1 1 * 1103515245 + 12345) (by unfold okI; omega) (Or.inl rfl)).desk (i := 7) (v := nI (x % 10)) (by unfold okI; omega) (Or.inr (inN_nI (by show _ ≤ 9; omega)))
    have ed : sX0_draw 17 (cW I A tp) = some (nI x, cW (upd I 1 (B 1 1 * 1103515245 + 12345)) A tp) := by
      rw [sX0_draw, if_pos (c_is17 I A tp), c_I17_9, Option.bind_some, c_P17_9, Option.bind_some, c_I17_9, Option.bind_some, upd_same, z1, ex]
    have em : sX10_drawn 0 10 (mW J B) = some (nI (x % 10), mW J (up2 B 1 1 (B 1 1 * 1103515245 + 12345))) := by
      rw [sX10_drawn, if_pos (m_is J B), m_R0, Option.bind_some, Option.bind_some, show ab_ald (mW J B) 1 1 = some (B 1 1) from rfl, Option.bind_some, show ∀ v, ab_ast (mW J B) 1 1 v = some (mW J (up2 B 1 1 v)) from fun v => rfl, Option.bind_some, m_R0, Option.bind_some, show ∀ B, ab_ald (mW J B) 1 1 = some (B 1 1) from fun B => rfl, Option.bind_some, up2_at, upd_same, ex, show ab_rem (nI x) 10 = _ from remk (k := 10) (by omega) (by decide) (by decide)]
      rfl
    obtain ⟨g0, g1, hM, hC⟩ := h1.laws
    have d0 : rn (up2 (up2 B 1 1 (B 1 1 * 1103515245 + 12345)) 1 7 (nI (x % 10)) 1) 0 = rn (B 1) 0 := by
      rw [rn, rn, up2_at, upd_ne (by decide), up2_at, upd_ne (by decide)]
    obtain ⟨I', A', e1, hR⟩ := h1.pass (tp := tp) (q := 1) hM hC (by omega) (by omega)
    obtain ⟨J', B', e2, hk⟩ := m_oneDay (J := J) (B := up2 (up2 B 1 1 (B 1 1 * 1103515245 + 12345)) 1 7 (nI (x % 10))) hM (t := 0) (by omega) (rt_0 hM.1).symm
    have h' := hR J' B' hk
    have d' : rn (B' 1) 0 + m ≤ 9999 := by
      rw [hk.2.1, rn_of (rt_day 1 0) (by omega), d0]
      omega
    obtain ⟨v, I2, A2, J2, B2, f1, f2, f3⟩ := ih (i + 1) k I' J' A' B' (by omega) h' d'
    refine ⟨v, I2, A2, J2, B2, ?_, ?_, f3⟩
    · rw [show k + (m + 1) + 1 = (k + m + 1) + 1 by omega, sX9_loose_39, if_pos (nI_lt (by omega) (by omega)), c_R0_3, Option.bind_some, Option.bind_some, ed, ab_b2_some, show ab_rem (nI x) 10 = _ from remk (k := 10) (by omega) (by decide) (by decide), Option.bind_some, c_P17_6, Option.bind_some, c_R0_5, Option.bind_some, c_R0_3, Option.bind_some, c_R0_2, Option.bind_some, show sX7_pass 55 17 11 1 _ = _ from e1, Option.bind_some, nI_1]
      exact f1
    · rw [show k + (m + 1) + 1 = (k + m + 1) + 1 by omega, sX10_loose_40, if_pos (nI_lt (by omega) (by omega)), m_R0, Option.bind_some, em, ab_b2_some, show ∀ B v, ab_ast (mW J B) 1 7 v = some (mW J (up2 B 1 7 v)) from fun B v => rfl, Option.bind_some, e2, Option.bind_some, nI_1]
      exact f2
theorem op_loose (h : RR n I A J B) (v : Int32) : OK n (sX9_loose 0 v (cW I A tp)) (sX10_loose 0 v (mW J B)) := by
  by_cases hv : inR v 1 40
  · have hv2 := hv
    obtain ⟨q, q1, q2, rfl⟩ := hv
    obtain ⟨d1, d2⟩ := rn_d h.1.2.2.2.1
    have i0 : I 0 = nI (rn (B 1) 0) := by rw [h.at (i := 0) (by unfold okI; omega)]; exact d1
    have m0 : ab_ald (mW J B) 1 0 = some (nI (rn (B 1) 0)) := by rw [← d1]; rfl
    by_cases hlt : 9999 < rn (B 1) 0 + q
    · refine ok_err (tp := tp) (-1000000003) 3 (by decide) h ?_ ?_
      · rw [sX9_loose, if_pos (c_is0 I A tp), cT_1_40 hv2, ab_b2_some, if_neg (by decide), c_R0_3, Option.bind_some, c_I17_5, Option.bind_some, i0, nI_add, if_pos (show (9999 : Int32) < nI (rn (B 1) 0 + q) from nI_lt (a := 9999) hlt (by omega))]
        rfl
      · rw [sX10_loose, if_pos (m_is J B), mT_1_40 hv2, ab_b2_some, if_neg (by decide), m_R0, Option.bind_some, m0, Option.bind_some, nI_add, if_pos (show (9999 : Int32) < nI (rn (B 1) 0 + q) from nI_lt (a := 9999) hlt (by omega))]
        rfl
    · obtain ⟨x, I', A', J', B', e1, e2, e3⟩ := cm_loose (tp := tp) (q := q) q2 q 0 (999 - q) I J A B (by omega) h (by omega)
      rw [show 999 - q + q + 1 = 1000 by omega] at e1 e2
      refine ⟨x, I', A', tp, J', B', ?_, ?_, e3.mono⟩
      · rw [sX9_loose, if_pos (c_is0 I A tp), cT_1_40 hv2, ab_b2_some, if_neg (by decide), c_R0_3, Option.bind_some, c_I17_5, Option.bind_some, i0, nI_add, if_neg (show ¬ (9999 : Int32) < nI (rn (B 1) 0 + q) from nI_nlt (a := 9999) (by omega) (by omega))]
        exact e1
      · rw [sX10_loose, if_pos (m_is J B), mT_1_40 hv2, ab_b2_some, if_neg (by decide), m_R0, Option.bind_some, m0, Option.bind_some, nI_add, if_neg (show ¬ (9999 : Int32) < nI (rn (B 1) 0 + q) from nI_nlt (a := 9999) (by omega) (by omega))]
        exact e2
  · refine ok_err (tp := tp) (-1000000001) 1 (by decide) h ?_ ?_
    · rw [sX9_loose, if_pos (c_is0 I A tp), cF_1_40 hv]
      rfl
    · rw [sX10_loose, if_pos (m_is J B), mF_1_40 hv]
      rfl
end OP
