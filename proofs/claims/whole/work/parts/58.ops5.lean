section OP
variable {n : Nat} {I J : Nat → Int32} {A B : Nat → Nat → Int32} {tp : Nat}
theorem RR.shput (h : RR n I A J B) {s j : Nat} (v : Int32) (hs : s < 4) (hj : j < 40) : RR n I (up2 A (4 + 2 * s) j v) J (up2 B 10 (40 * s + j) v) := by
  obtain ⟨h1, h2, h3, h4, h5, h6⟩ := h
  have aA : ∀ k, k ≠ 4 → k ≠ 6 → k ≠ 8 → k ≠ 10 → up2 A (4 + 2 * s) j v k = A k := fun k a b c d => up2_ne (by omega)
  refine ⟨?_, ?_, fun t ht => ?_, ?_, ?_, ?_⟩
  · rw [aA 19 (by decide) (by decide) (by decide) (by decide), aA 21 (by decide) (by decide) (by decide) (by decide), aA 31 (by decide) (by decide) (by decide) (by decide), aA 34 (by decide) (by decide) (by decide) (by decide)]
    exact h1
  · rw [aA 1 (by decide) (by decide) (by decide) (by decide)]; exact h2
  · obtain ⟨g1, g2, g3, g4, g5⟩ := h3 t ht
    refine ⟨g1, g2, fun q hq => ?_, g4, g5⟩
    rw [up2_at]
    by_cases e : t = s
    · subst e
      rw [up2_at]
      by_cases e2 : q = j
      · subst e2; rw [upd_same, upd_same]
      · rw [upd_ne e2, upd_ne (by omega)]; exact g3 q hq
    · rw [up2_ne (by omega), upd_ne (by omega)]; exact g3 q hq
  · rw [aA 12 (by decide) (by decide) (by decide) (by decide), aA 13 (by decide) (by decide) (by decide) (by decide)]; exact h4
  · rw [aA 64 (by decide) (by decide) (by decide) (by decide)]; exact h5
  · obtain ⟨k1, k2⟩ := h6
    refine ⟨k1, ?_⟩
    rw [aA 38 (by decide) (by decide) (by decide) (by decide), aA 40 (by decide) (by decide) (by decide) (by decide), aA 50 (by decide) (by decide) (by decide) (by decide), aA 53 (by decide) (by decide) (by decide) (by decide)]
    exact k2
/-- within 0 .. z - 1, for z of 0 .. *)-/
theorem win1 {v : Int32} {z : Nat} (hz : z < 2 ^ 31) (w : ab_W) : (isP v z → sX9_within v 0 (nI z - 1) w = some (1, w) ∧ sX10_in v 0 (nI z - 1) w = some (1, w)) ∧ (¬ isP v z → sX9_within v 0 (nI z - 1) w = some (0, w) ∧ sX10_in v 0 (nI z - 1) w = some (0, w)) := by
  rcases Nat.eq_zero_or_pos z with rfl | hp
  · refine ⟨fun ⟨j, hj, _⟩ => absurd hj (by omega), fun _ => ?_⟩
    rw [show (nI 0 - 1 : Int32) = -1 from rfl]
    have key : v < 0 ∨ -1 < v := by
      rw [Int32.lt_iff_toInt_lt, Int32.lt_iff_toInt_lt, show (0 : Int32).toInt = 0 from rfl, show (-1 : Int32).toInt = -1 from rfl]
      omega
    rw [sX9_within, sX10_in]
    by_cases h0 : v < 0
    · rw [if_pos h0]; exact ⟨rfl, rfl⟩
    · rw [if_neg h0, if_pos (key.resolve_left h0)]; exact ⟨rfl, rfl⟩
  · rw [show nI z - 1 = nI (z - 1) from by rw [← pk_sub hp]; rfl]
    refine ⟨fun ⟨j, hj, e⟩ => ?_, fun hn => ?_⟩
    · have hR : inR v 0 (z - 1) := ⟨j, by omega, by omega, e⟩
      exact ⟨c_in_T (lo := 0) w (by omega) (by omega) hR, m_in_T (lo := 0) w (by omega) (by omega) hR⟩
    · have hR : ¬ inR v 0 (z - 1) := fun ⟨j, _, hj, e⟩ => hn ⟨j, by omega, e⟩
      exact ⟨c_in_F (lo := 0) w (by omega) (by omega) hR, m_in_F (lo := 0) w (by omega) (by omega) hR⟩
theorem op_put (h : RR n I A J B) (s q v : Int32) : OK n (sX9_put 0 s q v (cW I A tp)) (sX10_put 0 s q v (mW J B)) := by
  by_cases hs : inR s 0 3
  · have hs2 := hs
    obtain ⟨t, -, ht, rfl⟩ := hs
    have ht4 : t < 4 := by omega
    obtain ⟨g1, g2, g3, g4, z, hz, gz⟩ := h.2.2.1 t ht4
    by_cases hb : B 8 t = 0
    · refine ok_err (tp := tp) (-1000000002) 2 (by decide) h ?_ ?_
      · rw [sX9_put, if_pos (c_is0 I A tp), cT_0_3 hs2, ab_b2_some, if_neg (by decide), c_R0_1, Option.bind_some, c_Q2 I A tp ht4, Option.bind_some, c_miss ht4, ab_b2_some, g1, if_pos hb, if_neg (by decide)]
        rfl
      · rw [sX10_put, if_pos (m_is J B), m_sheetT hs2, ab_b2_some, if_neg (by decide), m_R17, Option.bind_some, m_A8 J B ht4, Option.bind_some, if_pos hb]
        rfl
    · by_cases hq : isP q z
      · obtain ⟨w1, w2⟩ := (win1 (by omega) (cW I A tp)).1 hq
        obtain ⟨w3, w4⟩ := (win1 (by omega) (mW J B)).1 hq
        obtain ⟨j, hj, rfl⟩ := hq
        refine ⟨1, I, _, tp, J, _, ?_, ?_, (h.shput (s := t) (j := j) (if B 8 t = 8 then v.toInt8.toInt32 else if B 8 t = 16 then v.toInt16.toInt32 else v) ht4 (by omega)).mono⟩
        · rw [sX9_put, if_pos (c_is0 I A tp), cT_0_3 hs2, ab_b2_some, if_neg (by decide), c_R0_1, Option.bind_some, c_Q2 I A tp ht4, Option.bind_some, c_miss ht4, ab_b2_some, g1, if_neg hb, if_pos rfl, c_h2 I A tp ht4, Option.bind_some, g2, gz, w1, ab_b2_some, if_neg (by decide), c_hR I A tp ht4, Option.bind_some, c_low _ ht4, ab_b2_some, c_hS I A tp _ ht4 (by omega), g1]
          rfl
        · rw [sX10_put, if_pos (m_is J B), m_sheetT hs2, ab_b2_some, if_neg (by decide), m_R17, Option.bind_some, m_A8 J B ht4, Option.bind_some, if_neg hb, m_R18, Option.bind_some, m_A9 J B ht4, Option.bind_some, gz, w4, ab_b2_some, if_neg (by decide), m_R19, Option.bind_some, m_R17, Option.bind_some, m_A8 J B ht4, Option.bind_some, m_nar, ab_b2_some, e40, m_S10 J B _ (by omega)]
          rfl
      · obtain ⟨w1, w2⟩ := (win1 (by omega) (cW I A tp)).2 hq
        obtain ⟨w3, w4⟩ := (win1 (by omega) (mW J B)).2 hq
        refine ok_err (tp := tp) (-1000000001) 1 (by decide) h ?_ ?_
        · rw [sX9_put, if_pos (c_is0 I A tp), cT_0_3 hs2, ab_b2_some, if_neg (by decide), c_R0_1, Option.bind_some, c_Q2 I A tp ht4, Option.bind_some, c_miss ht4, ab_b2_some, g1, if_neg hb, if_pos rfl, c_h2 I A tp ht4, Option.bind_some, g2, gz, w1]
          rfl
        · rw [sX10_put, if_pos (m_is J B), m_sheetT hs2, ab_b2_some, if_neg (by decide), m_R17, Option.bind_some, m_A8 J B ht4, Option.bind_some, if_neg hb, m_R18, Option.bind_some, m_A9 J B ht4, Option.bind_some, gz, w4]
          rfl
  · refine ok_err (tp := tp) (-1000000001) 1 (by decide) h ?_ ?_
    · rw [sX9_put, if_pos (c_is0 I A tp), cF_0_3 hs]
      rfl
    · rw [sX10_put, if_pos (m_is J B), m_sheetF hs]
      rfl
theorem c_debts {s z c : Nat} (hs : s < 4) (hz : z ≤ 40) (hc : c ≤ 8) : ∀ (m j k : Nat) (I J : Nat → Int32) (A B : Nat → Nat → Int32), j + m = 8 → j ≤ c → j ≤ z → RR n I A J B → I (404 + s) = nI z → I 2 = nI c → ∃ (q : Nat) (I' : Nat → Int32) (B' : Nat → Nat → Int32), sX9_debts_37 (k + m + 1) 0 (3 + 2 * s) (nI j) (cW I A tp) = some (nI q, cW I' A tp) ∧ sX10_debts_32 (k + m + 1) 0 (nI s) (nI j) (mW J B) = some (nI q, mW J B') ∧ RR n I' A J B' := by
  intro m
  induction m with
  | zero =>
    intro j k I J A B hj hjc hjz h hI hc2
    obtain ⟨g1, g2, g3, g4, z', hz', gz⟩ := h.2.2.1 s hs
    have hB2 : B 1 2 = nI c := by rw [← h.at (i := 2) (by unfold okI; omega)]; exact hc2
    have hB9 : B 9 s = nI z := by rw [← g2]; exact hI
    refine ⟨j, I, B, ?_, ?_, h⟩
    · rw [sX9_debts_37, c_h2 I A tp hs, Option.bind_some, hI]
      by_cases h1 : j < z
      · rw [if_pos (nI_lt h1 (by omega)), c_R0_3, Option.bind_some, c_I17_4, Option.bind_some, hc2, if_neg (nI_nlt (by omega) (by omega))]
      · rw [if_neg (nI_nlt (by omega) (by omega))]
    · rw [sX10_debts_32, m_R18, Option.bind_some, m_A9 J B hs, Option.bind_some, hB9]
      by_cases h1 : j < z
      · rw [if_pos (nI_lt h1 (by omega)), m_isP_F hB2 hc (fun ⟨q, hq, e⟩ => by have := (nI_eq (by omega) (by omega)).mp e; omega)]
        rfl
      · rw [if_neg (nI_nlt (by omega) (by omega))]
  | succ m ih =>
    intro j k I J A B hj hjc hjz h hI hc2
    obtain ⟨g1, g2, g3, g4, z', hz', gz⟩ := h.2.2.1 s hs
    have hB2 : B 1 2 = nI c := by rw [← h.at (i := 2) (by unfold okI; omega)]; exact hc2
    have hB9 : B 9 s = nI z := by rw [← g2]; exact hI
    rw [show k + (m + 1) + 1 = (k + m + 1) + 1 by omega, sX9_debts_37, c_h2 I A tp hs, Option.bind_some, hI, sX10_debts_32, m_R18, Option.bind_some, m_A9 J B hs, Option.bind_some, hB9]
    by_cases h1 : j < z
    · rw [if_pos (nI_lt h1 (by omega)), if_pos (nI_lt h1 (by omega)), c_R0_3, Option.bind_some, c_I17_4, Option.bind_some, hc2]
      by_cases h2 : j < c
      · rw [if_pos (nI_lt h2 (by omega)), m_isP_T hB2 h2 hc, ab_b2_some, if_neg (by decide), c_hR I A tp hs, Option.bind_some, c_hA I A tp hs (by omega), Option.bind_some, m_R19, Option.bind_some, e40, m_A10 J B (by omega), Option.bind_some, g3 j (by omega)]
        by_cases h3 : inR (B 10 (40 * s + j)) 0 9999
        · rw [cT_0_9999 h3, mT_0_9999 h3, ab_b2_some, ab_b2_some, if_neg (by decide), if_neg (by decide), c_R0_3, Option.bind_some, c_R17_0, Option.bind_some, c_Q18 I A tp (by omega), Option.bind_some, c_hR I A tp hs, Option.bind_some, c_hA I A tp hs (by omega), Option.bind_some, c_pP I A tp (by omega) 2 (by decide), Option.bind_some, m_R19, Option.bind_some, m_A10 J B (by omega), Option.bind_some, m_g2 (by omega), Option.bind_some, nI_1, g3 j (by omega)]
          obtain ⟨d, -, hd, ed⟩ := h3
          rw [ed]
          have h' := h.pw (j := j) (q := 2) (k := d) (by omega) (by decide) (by simp; omega)
          obtain ⟨q, I', B', e1, e2, e3⟩ := ih (j + 1) k _ J A _ (by omega) (by omega) (by omega) h' (by rw [upd_ne (by omega)]; exact hI) (by rw [upd_ne (by omega)]; exact hc2)
          exact ⟨q, I', B', e1, e2, e3⟩
        · rw [cF_0_9999 h3, mF_0_9999 h3]
          exact ⟨j, I, B, rfl, rfl, h⟩
      · rw [if_neg (nI_nlt (by omega) (by omega)), m_isP_F hB2 hc (fun ⟨q, hq, e⟩ => by have := (nI_eq (by omega) (by omega)).mp e; omega)]
        exact ⟨j, I, B, rfl, rfl, h⟩
    · rw [if_neg (nI_nlt (by omega) (by omega)), if_neg (nI_nlt (by omega) (by omega))]
      exact ⟨j, I, B, rfl, rfl, h⟩
theorem op_debts (h : RR n I A J B) (s : Int32) : OK n (sX9_debts 0 s (cW I A tp)) (sX10_debts 0 s (mW J B)) := by
  by_cases hs : inR s 0 3
  · have hs2 := hs
    obtain ⟨t, -, ht, rfl⟩ := hs
    have ht4 : t < 4 := by omega
    obtain ⟨g1, g2, g3, g4, z, hz, gz⟩ := h.2.2.1 t ht4
    by_cases hb : B 8 t = 0
    · refine ok_err (tp := tp) (-1000000002) 2 (by decide) h ?_ ?_
      · rw [sX9_debts, if_pos (c_is0 I A tp), cT_0_3 hs2, ab_b2_some, if_neg (by decide), c_R0_1, Option.bind_some, c_Q2 I A tp ht4, Option.bind_some, c_miss ht4, ab_b2_some, g1, if_pos hb, if_neg (by decide)]
        rfl
      · rw [sX10_debts, if_pos (m_is J B), m_sheetT hs2, ab_b2_some, if_neg (by decide), m_R17, Option.bind_some, m_A8 J B ht4, Option.bind_some, if_pos hb]
        rfl
    · obtain ⟨c, hc8, hcB, hcI⟩ := h.many
      obtain ⟨q, I', B', e1, e2, e3⟩ := c_debts (tp := tp) ht4 hz hc8 8 0 991 I J A B rfl (by omega) (by omega) h (g2.trans gz) hcI
      refine ⟨nI q, I', A, tp, J, B', ?_, ?_, e3.mono⟩
      · rw [sX9_debts, if_pos (c_is0 I A tp), cT_0_3 hs2, ab_b2_some, if_neg (by decide), c_R0_1, Option.bind_some, c_Q2 I A tp ht4, Option.bind_some, c_miss ht4, ab_b2_some, g1, if_neg hb, if_pos rfl]
        exact e1
      · rw [sX10_debts, if_pos (m_is J B), m_sheetT hs2, ab_b2_some, if_neg (by decide), m_R17, Option.bind_some, m_A8 J B ht4, Option.bind_some, if_neg hb]
        exact e2
  · refine ok_err (tp := tp) (-1000000001) 1 (by decide) h ?_ ?_
    · rw [sX9_debts, if_pos (c_is0 I A tp), cF_0_3 hs]
      rfl
    · rw [sX10_debts, if_pos (m_is J B), m_sheetF hs]
      rfl
end OP
