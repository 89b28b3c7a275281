section OP
variable {n : Nat} {I J : Nat → Int32} {A B : Nat → Nat → Int32} {tp : Nat}
theorem op_ofPaper (h : RR n I A J B) (k v : Int32) : OK n (sX9_ofPaper 0 k v (cW I A tp)) (sX10_ofPaper 0 k v (mW J B)) := by
  obtain ⟨c, hc8, hcB, hcI⟩ := h.many
  by_cases hp : isP k c
  · obtain ⟨j, hj, rfl⟩ := hp
    have hj8 : j < 8 := by omega
    by_cases hv : inR v 0 9
    · have hv2 := hv
      obtain ⟨q, -, hq, rfl⟩ := hv
      obtain ⟨kd, k6, kB, kI⟩ := h.pv (q := 0) hj8 (by decide)
      obtain ⟨mm, m9, mB, mI⟩ := h.pv (q := 1) hj8 (by decide)
      obtain ⟨cr, c7, cB, cI⟩ := h.pv (q := 3) hj8 (by decide)
      obtain ⟨up, u1, uB, uI⟩ := h.pv (q := 4) hj8 (by decide)
      have e2 := h.at (okP (j := j) (q := 2) hj8 (by decide))
      have e5 := h.at (okP (j := j) (q := 5) hj8 (by decide))
      simp only [List.getD_cons_zero, List.getD_cons_succ] at k6 m9 c7 u1
      have hc128 : cr < 128 := by omega
      obtain ⟨t1, t2⟩ := h.2.2.2.1 _ hc128
      obtain ⟨fa, ea⟩ := m_alive (J := J) hj8 kB mB k6 m9 hc128
      have E1 : ∀ S, sX9_ofPaper 0 (nI j) (nI q) (cW I A tp) = S ↔ sX9_ofPaper 0 (nI j) (nI q) (cW I A tp) = S := fun _ => Iff.rfl
      have M0 : ∀ q' : Int32, nI q = q' → q' ≠ 6 → q' ≠ 7 → q' ≠ 8 → q' ≠ 9 → sX10_ofPaper 0 (nI j) (nI q) (mW J B) = ab_b2 (sX10_its 0 (nI j) q' (mW J B)) fun v19 w20 => some (v19, w20) := by
        intro q' e a b c d
        rw [sX10_ofPaper, if_pos (m_is J B), m_isP_T hcB hj hc8, ab_b2_some, mT_0_9 hv2, ab_b2_some, if_neg (by decide), if_neg (by decide), e, if_neg a, if_neg b, if_neg c, if_neg d]
      rcases (show q = 0 ∨ q = 1 ∨ q = 2 ∨ q = 3 ∨ q = 4 ∨ q = 5 ∨ q = 6 ∨ q = 7 ∨ q = 8 ∨ q = 9 by omega) with rfl | rfl | rfl | rfl | rfl | rfl | rfl | rfl | rfl | rfl
      · refine ok_same (tp := tp) (nI kd) h ?_ ?_ (cE.refl I A) (mE.refl J B)
        · rw [sX9_ofPaper, if_pos (c_is0 I A tp), c_R0_3, Option.bind_some, c_has_T hcI hj hc8, ab_b2_some, cT_0_9 hv2, ab_b2_some, if_neg (by decide), if_neg (by decide), c_R0_3, Option.bind_some, c_R17_0, Option.bind_some, c_Q18 I A tp hj8, Option.bind_some, if_pos (by decide), c_pI I A tp hj8 0 (by decide), Option.bind_some, kI]
        · rw [M0 0 rfl (by decide) (by decide) (by decide) (by decide), m_i0 hj8, kB]; rfl
      · refine ok_same (tp := tp) (nI mm) h ?_ ?_ (cE.refl I A) (mE.refl J B)
        · rw [sX9_ofPaper, if_pos (c_is0 I A tp), c_R0_3, Option.bind_some, c_has_T hcI hj hc8, ab_b2_some, cT_0_9 hv2, ab_b2_some, if_neg (by decide), if_neg (by decide), c_R0_3, Option.bind_some, c_R17_0, Option.bind_some, c_Q18 I A tp hj8, Option.bind_some, if_neg (by decide), if_pos (by decide), c_pI I A tp hj8 1 (by decide), Option.bind_some, mI]
        · rw [M0 1 rfl (by decide) (by decide) (by decide) (by decide), m_i1 hj8, mB]; rfl
      · refine ok_same (tp := tp) (I (8 + 6 * j + 2)) h ?_ ?_ (cE.refl I A) (mE.refl J B)
        · rw [sX9_ofPaper, if_pos (c_is0 I A tp), c_R0_3, Option.bind_some, c_has_T hcI hj hc8, ab_b2_some, cT_0_9 hv2, ab_b2_some, if_neg (by decide), if_neg (by decide), c_R0_3, Option.bind_some, c_R17_0, Option.bind_some, c_Q18 I A tp hj8, Option.bind_some, if_neg (by decide), if_neg (by decide), if_pos (by decide), c_pI I A tp hj8 2 (by decide), Option.bind_some]
        · rw [M0 2 rfl (by decide) (by decide) (by decide) (by decide), m_i2 hj8, e2]; rfl
      · refine ok_same (tp := tp) (nI cr) h ?_ ?_ (cE.refl I A) (mE.refl J B)
        · rw [sX9_ofPaper, if_pos (c_is0 I A tp), c_R0_3, Option.bind_some, c_has_T hcI hj hc8, ab_b2_some, cT_0_9 hv2, ab_b2_some, if_neg (by decide), if_neg (by decide), c_R0_3, Option.bind_some, c_R17_0, Option.bind_some, c_Q18 I A tp hj8, Option.bind_some, if_neg (by decide), if_neg (by decide), if_neg (by decide), if_pos (by decide), c_pI I A tp hj8 3 (by decide), Option.bind_some, cI]
        · rw [M0 3 rfl (by decide) (by decide) (by decide) (by decide), m_i3 hj8, cB]; rfl
      · refine ok_same (tp := tp) (nI up) h ?_ ?_ (cE.refl I A) (mE.refl J B)
        · rw [sX9_ofPaper, if_pos (c_is0 I A tp), c_R0_3, Option.bind_some, c_has_T hcI hj hc8, ab_b2_some, cT_0_9 hv2, ab_b2_some, if_neg (by decide), if_neg (by decide), c_R0_3, Option.bind_some, c_R17_0, Option.bind_some, c_Q18 I A tp hj8, Option.bind_some, if_neg (by decide), if_neg (by decide), if_neg (by decide), if_neg (by decide), if_pos (by decide), c_pI I A tp hj8 4 (by decide), Option.bind_some, uI]
          rcases (show up = 0 ∨ up = 1 by omega) with rfl | rfl <;> rfl
        · rw [M0 4 rfl (by decide) (by decide) (by decide) (by decide), m_i4 hj8, uB]; rfl
      · refine ok_same (tp := tp) (I (8 + 6 * j + 5)) h ?_ ?_ (cE.refl I A) (mE.refl J B)
        · rw [sX9_ofPaper, if_pos (c_is0 I A tp), c_R0_3, Option.bind_some, c_has_T hcI hj hc8, ab_b2_some, cT_0_9 hv2, ab_b2_some, if_neg (by decide), if_neg (by decide), c_R0_3, Option.bind_some, c_R17_0, Option.bind_some, c_Q18 I A tp hj8, Option.bind_some, if_neg (by decide), if_neg (by decide), if_neg (by decide), if_neg (by decide), if_neg (by decide), if_pos (by decide), c_pI I A tp hj8 5 (by decide), Option.bind_some]
        · rw [M0 5 rfl (by decide) (by decide) (by decide) (by decide), m_i5 hj8, e5]; rfl
      · refine ok_same (tp := tp) (nI (wid cr)) h ?_ ?_ (cE.refl I A) (mE6 (lyF cr 7 (B 6)))
        · rw [sX9_ofPaper, if_pos (c_is0 I A tp), c_R0_3, Option.bind_some, c_has_T hcI hj hc8, ab_b2_some, cT_0_9 hv2, ab_b2_some, if_neg (by decide), if_neg (by decide), c_R0_3, Option.bind_some, c_R17_0, Option.bind_some, c_Q18 I A tp hj8, Option.bind_some, if_neg (by decide), if_neg (by decide), if_neg (by decide), if_neg (by decide), if_neg (by decide), if_neg (by decide), if_pos (by decide), c_R0_2, Option.bind_some, c_R11_0, Option.bind_some, c_pI I A tp hj8 3 (by decide), Option.bind_some, cI, c_A12 I A tp hc128, Option.bind_some, t1]
        · rw [sX10_ofPaper, if_pos (m_is J B), m_isP_T hcB hj hc8, ab_b2_some, mT_0_9 hv2, ab_b2_some, if_neg (by decide), if_neg (by decide), if_pos (by decide), m_i3 hj8, ab_b2_some, cB, m_wide hc128]; rfl
      · refine ok_same (tp := tp) (nI (thk cr)) h ?_ ?_ (cE.refl I A) (mE6 (lyF cr 7 (B 6)))
        · rw [sX9_ofPaper, if_pos (c_is0 I A tp), c_R0_3, Option.bind_some, c_has_T hcI hj hc8, ab_b2_some, cT_0_9 hv2, ab_b2_some, if_neg (by decide), if_neg (by decide), c_R0_3, Option.bind_some, c_R17_0, Option.bind_some, c_Q18 I A tp hj8, Option.bind_some, if_neg (by decide), if_neg (by decide), if_neg (by decide), if_neg (by decide), if_neg (by decide), if_neg (by decide), if_neg (by decide), if_pos (by decide), c_R0_2, Option.bind_some, c_R11_1, Option.bind_some, c_pI I A tp hj8 3 (by decide), Option.bind_some, cI, c_A13 I A tp hc128, Option.bind_some, t2]
        · rw [sX10_ofPaper, if_pos (m_is J B), m_isP_T hcB hj hc8, ab_b2_some, mT_0_9 hv2, ab_b2_some, if_neg (by decide), if_neg (by decide), if_neg (by decide), if_pos (by decide), m_i3 hj8, ab_b2_some, cB, m_thick hc128]; rfl
      · refine ok_same (tp := tp) (nI (stf kd mm)) h ?_ ?_ (cE.refl I A) (mE.refl J B)
        · rw [sX9_ofPaper, if_pos (c_is0 I A tp), c_R0_3, Option.bind_some, c_has_T hcI hj hc8, ab_b2_some, cT_0_9 hv2, ab_b2_some, if_neg (by decide), if_neg (by decide), c_R0_3, Option.bind_some, c_R17_0, Option.bind_some, c_Q18 I A tp hj8, Option.bind_some, if_neg (by decide), if_neg (by decide), if_neg (by decide), if_neg (by decide), if_neg (by decide), if_neg (by decide), if_neg (by decide), if_neg (by decide), if_pos (by decide), c_stiff hj8 kI mI k6 m9]; rfl
        · rw [sX10_ofPaper, if_pos (m_is J B), m_isP_T hcB hj hc8, ab_b2_some, mT_0_9 hv2, ab_b2_some, if_neg (by decide), if_neg (by decide), if_neg (by decide), if_neg (by decide), if_pos (by decide), m_stiff hj8 kB mB k6 m9]; rfl
      · refine ok_same (tp := tp) (bI (alv cr kd mm)) h ?_ ?_ (cE.refl I A) (mE6 fa)
        · rw [sX9_ofPaper, if_pos (c_is0 I A tp), c_R0_3, Option.bind_some, c_has_T hcI hj hc8, ab_b2_some, cT_0_9 hv2, ab_b2_some, if_neg (by decide), if_neg (by decide), c_R0_3, Option.bind_some, c_R17_0, Option.bind_some, c_Q18 I A tp hj8, Option.bind_some, if_neg (by decide), if_neg (by decide), if_neg (by decide), if_neg (by decide), if_neg (by decide), if_neg (by decide), if_neg (by decide), if_neg (by decide), if_neg (by decide), c_R0_2, Option.bind_some, c_pI I A tp hj8 3 (by decide), Option.bind_some, cI, c_live h.2.2.2.1 hj8 kI mI k6 m9 hc128, ab_b2_some]
          cases alv cr kd mm <;> rfl
        · rw [sX10_ofPaper, if_pos (m_is J B), m_isP_T hcB hj hc8, ab_b2_some, mT_0_9 hv2, ab_b2_some, if_neg (by decide), if_neg (by decide), if_neg (by decide), if_neg (by decide), if_neg (by decide), if_pos (by decide), m_i3 hj8, ab_b2_some, cB, ea, ab_b2_some]
          cases alv cr kd mm <;> rfl
    · refine ok_err (tp := tp) (-1000000001) 1 (by decide) h ?_ ?_
      · rw [sX9_ofPaper, if_pos (c_is0 I A tp), c_R0_3, Option.bind_some, c_has_T hcI hj hc8, ab_b2_some, cF_0_9 hv]
        rfl
      · rw [sX10_ofPaper, if_pos (m_is J B), m_isP_T hcB hj hc8, ab_b2_some, mF_0_9 hv]
        rfl
  · refine ok_err (tp := tp) (-1000000001) 1 (by decide) h ?_ ?_
    · rw [sX9_ofPaper, if_pos (c_is0 I A tp), c_R0_3, Option.bind_some, c_has_F hcI hc8 hp]
      rfl
    · rw [sX10_ofPaper, if_pos (m_is J B), m_isP_F hcB hc8 hp]
      rfl
theorem c_judge {s z c : Nat} (hs : s < 4) (hz : z ≤ 40) (hc : c ≤ 8) (h : RR n I A J B) (hI : I (404 + s) = nI z) (hc2 : I 2 = nI c) : ∀ (m j k : Nat), j + m = min z c → ∃ r, sX9_judge_53 (k + m + 1) 0 (3 + 2 * s) (nI (min z c)) (nI j) (cW I A tp) = some (r, cW I A tp) ∧ sX10_judge_32 (k + m + 1) 0 (nI s) (nI j) (mW J B) = some (r, mW J B) := by
  obtain ⟨g1, g2, g3, g4, z', hz', gz⟩ := h.2.2.1 s hs
  have hB2 : B 1 2 = nI c := by rw [← h.at (i := 2) (by unfold okI; omega)]; exact hc2
  have hB9 : B 9 s = nI z := by rw [← g2]; exact hI
  have m2 : ab_ald (mW J B) 1 2 = some (nI c) := by rw [← hB2]; rfl
  have m78 : ∀ j, j ≤ 40 → sX10_judge_78 0 (nI s) (nI j) (mW J B) = some (if j = c ∧ j = z then -1 else nI j, mW J B) := by
    intro j hj
    rw [sX10_judge_78, m_R0, Option.bind_some, m2, Option.bind_some]
    by_cases e1 : j = c
    · rw [if_pos (by rw [e1]), m_R18, Option.bind_some, m_A9 J B hs, Option.bind_some, hB9]
      by_cases e2 : j = z
      · rw [if_pos (by rw [e2]), if_pos ⟨e1, e2⟩]
      · rw [if_neg (fun e => e2 ((nI_eq (by omega) (by omega)).mp e)), if_neg (fun e => e2 e.2)]
    · rw [if_neg (fun e => e1 ((nI_eq (by omega) (by omega)).mp e)), if_neg (fun e => e1 e.1)]
  intro m
  induction m with
  | zero =>
    intro j k hj
    refine ⟨if j = c ∧ j = z then -1 else nI j, ?_, ?_⟩
    · rw [sX9_judge_53, if_neg (nI_nlt (by omega) (by omega)), c_h2 I A tp hs, Option.bind_some, c_R0_3, Option.bind_some, c_I17_4, Option.bind_some, hI, hc2]
      by_cases e : z = c
      · rw [if_pos (by rw [e]), if_pos (by omega)]
      · rw [if_neg (fun e' => e ((nI_eq (by omega) (by omega)).mp e')), if_neg (by omega), show min z c = j by omega]
    · rw [sX10_judge_32, m_R0, Option.bind_some, m2, Option.bind_some]
      by_cases h1 : j < c
      · rw [if_pos (nI_lt h1 (by omega)), m_R18, Option.bind_some, m_A9 J B hs, Option.bind_some, hB9, if_neg (nI_nlt (by omega) (by omega)), m78 j (by omega)]
      · rw [if_neg (nI_nlt (by omega) (by omega)), m78 j (by omega)]
  | succ m ih =>
    intro j k hj
    obtain ⟨r, r1, r2⟩ := ih (j + 1) k (by omega)
    rw [show k + (m + 1) + 1 = (k + m + 1) + 1 by omega, sX9_judge_53, if_pos (nI_lt (by omega) (by omega)), c_hR I A tp hs, Option.bind_some, c_hA I A tp hs (by omega), Option.bind_some, c_R0_3, Option.bind_some, c_R17_0, Option.bind_some, c_Q18 I A tp (by omega), Option.bind_some, c_pI I A tp (by omega) 3 (by decide), Option.bind_some, g3 j (by omega), h.at (okP (j := j) (q := 3) (by omega) (by decide)), sX10_judge_32, m_R0, Option.bind_some, m2, Option.bind_some, if_pos (nI_lt (by omega) (by omega)), m_R18, Option.bind_some, m_A9 J B hs, Option.bind_some, hB9, if_pos (nI_lt (by omega) (by omega)), m_R19, Option.bind_some, e40, m_A10 J B (by omega), Option.bind_some, m_i3 (by omega), ab_b2_some]
    by_cases e : B 10 (40 * s + j) = B 1 (8 + 6 * j + 3)
    · rw [if_pos e, if_pos e, nI_1]
      exact ⟨r, r1, r2⟩
    · rw [if_neg e, if_neg e, m78 j (by omega), if_neg (by omega)]
      exact ⟨_, rfl, rfl⟩
theorem op_judge (h : RR n I A J B) (s : Int32) : OK n (sX9_judge 0 s (cW I A tp)) (sX10_judge 0 s (mW J B)) := by
  by_cases hs : inR s 0 3
  · have hs2 := hs
    obtain ⟨t, -, ht, rfl⟩ := hs
    have ht4 : t < 4 := by omega
    obtain ⟨g1, g2, g3, g4, z, hz, gz⟩ := h.2.2.1 t ht4
    by_cases hb : B 8 t = 0
    · refine ok_err (tp := tp) (-1000000002) 2 (by decide) h ?_ ?_
      · rw [sX9_judge, if_pos (c_is0 I A tp), cT_0_3 hs2, ab_b2_some, if_neg (by decide), c_R0_1, Option.bind_some, c_Q2 I A tp ht4, Option.bind_some, c_miss ht4, ab_b2_some, g1, if_pos hb, if_neg (by decide)]
        rfl
      · rw [sX10_judge, if_pos (m_is J B), m_sheetT hs2, ab_b2_some, if_neg (by decide), m_R17, Option.bind_some, m_A8 J B ht4, Option.bind_some, if_pos hb]
        rfl
    · obtain ⟨c, hc8, hcB, hcI⟩ := h.many
      obtain ⟨r, e1, e2⟩ := c_judge (tp := tp) ht4 hz hc8 h (g2.trans gz) hcI (min z c) 0 (999 - min z c) (by omega)
      rw [show 999 - min z c + min z c + 1 = 1000 by omega] at e1 e2
      refine ok_same (tp := tp) r h ?_ ?_ (cE.refl I A) (mE.refl J B)
      · rw [sX9_judge, if_pos (c_is0 I A tp), cT_0_3 hs2, ab_b2_some, if_neg (by decide), c_R0_1, Option.bind_some, c_Q2 I A tp ht4, Option.bind_some, c_miss ht4, ab_b2_some, g1, if_neg hb, if_pos rfl, c_h2 I A tp ht4, Option.bind_some, c_R0_3, Option.bind_some, c_I17_4, Option.bind_some, g2, gz, hcI, show (if nI c < nI z then nI c else nI z) = nI (min z c) from by
          by_cases hlt : c < z
          · rw [if_pos (nI_lt hlt (by omega)), Nat.min_eq_right (by omega)]
          · rw [if_neg (nI_nlt (by omega) (by omega)), Nat.min_eq_left (by omega)]]
        exact e1
      · rw [sX10_judge, if_pos (m_is J B), m_sheetT hs2, ab_b2_some, if_neg (by decide), m_R17, Option.bind_some, m_A8 J B ht4, Option.bind_some, if_neg hb]
        exact e2
  · refine ok_err (tp := tp) (-1000000001) 1 (by decide) h ?_ ?_
    · rw [sX9_judge, if_pos (c_is0 I A tp), cF_0_3 hs]
      rfl
    · rw [sX10_judge, if_pos (m_is J B), m_sheetF hs]
      rfl
end OP
