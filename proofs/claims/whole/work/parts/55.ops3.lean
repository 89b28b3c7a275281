section OP
variable {n : Nat} {I J : Nat → Int32} {A B : Nat → Nat → Int32} {tp : Nat}
theorem c_lay3 {j km db : Nat} (hj : j < 8) (hk : km ≤ 69) : sX3_lay (22 + j) (nI km) (nI db) (cW I A tp) = some (cW (upd (upd (upd (upd (upd (upd I (8 + 6 * j + 0) (nI (km / 10))) (8 + 6 * j + 1) (nI (km % 10))) (8 + 6 * j + 2) (nI db)) (8 + 6 * j + 3) 0) (8 + 6 * j + 4) 0) (8 + 6 * j + 5) 0) A tp) := by
  simp (disch := first | omega | decide) only [sX3_lay, ↓reduceIte, Option.bind_some, ab_b2_some, Option.some.injEq, c_pis, div10 hk, rem10 hk, c_pP, c_pZ]
theorem op_paper (h : RR n I A J B) (k v : Int32) : OK n (sX9_paper 0 k v (cW I A tp)) (sX10_paper 0 k v (mW J B)) := by
  obtain ⟨c, hc8, hcB, hcI⟩ := h.many
  by_cases hk : inR k 0 69
  · have hk2 := hk
    obtain ⟨km, -, km9, rfl⟩ := hk
    by_cases hv : inR v 0 9999
    · have hv2 := hv
      obtain ⟨db, -, db9, rfl⟩ := hv
      by_cases hc : c = 8
      · subst hc
        refine ok_err (tp := tp) (-1000000004) 4 (by decide) h ?_ ?_
        · rw [sX9_paper, if_pos (c_is0 I A tp), cT_0_69 hk2, ab_b2_some, if_neg (by decide), cT_0_9999 hv2, ab_b2_some, if_neg (by decide), c_R0_3, Option.bind_some, c_I17_4, Option.bind_some, hcI]
          rfl
        · rw [sX10_paper, if_pos (m_is J B), mT_0_69 hk2, ab_b2_some, if_neg (by decide), mT_0_9999 hv2, ab_b2_some, if_neg (by decide), m_R0, Option.bind_some, show ab_ald (mW J B) 1 2 = some (B 1 2) from rfl, Option.bind_some, hcB]
          rfl
      · have hc7 : c < 8 := by omega
        have h1 := ((((((h.pw (j := c) (q := 0) (k := km / 10) hc7 (by decide) (by simp; omega)).pw (j := c) (q := 1) (k := km % 10) hc7 (by decide) (by simp; omega)).pw (j := c) (q := 2) (k := db) hc7 (by decide) (by simp; omega)).pw (j := c) (q := 3) (k := 0) hc7 (by decide) (by simp)).pw (j := c) (q := 4) (k := 0) hc7 (by decide) (by simp)).pw (j := c) (q := 5) (k := 0) hc7 (by decide) (by simp)).desk (i := 2) (v := nI (c + 1)) (by unfold okI; omega) (Or.inr (inN_nI (by show c + 1 ≤ 8; omega)))
        refine ⟨nI c, _, A, tp, J, _, ?_, ?_, h1.mono⟩
        · rw [sX9_paper, if_pos (c_is0 I A tp), cT_0_69 hk2, ab_b2_some, if_neg (by decide), cT_0_9999 hv2, ab_b2_some, if_neg (by decide), c_R0_3, Option.bind_some, c_I17_4, Option.bind_some, hcI, if_pos (show nI c < 8 from nI_lt (b := 8) (by omega) (by omega)), Option.bind_some, sX0_lay, if_pos (c_is17 I A tp), c_I17_4, Option.bind_some, hcI, if_pos (show nI c < 8 from nI_lt (b := 8) (by omega) (by omega)), c_R17_0, Option.bind_some, c_Q18 I A tp hc7, Option.bind_some, c_lay3 hc7 km9, Option.bind_some, c_I17_4, Option.bind_some, c_P17_4, Option.bind_some, ab_b2_some]
          simp (disch := omega) only [upd_ne]
          rw [hcI, nI_1]
          rfl
        · rw [sX10_paper, if_pos (m_is J B), mT_0_69 hk2, ab_b2_some, if_neg (by decide), mT_0_9999 hv2, ab_b2_some, if_neg (by decide), m_R0, Option.bind_some, show ab_ald (mW J B) 1 2 = some (B 1 2) from rfl, Option.bind_some, hcB, if_neg (show ¬ nI c = 8 from fun e => hc ((nI_eq (b := 8) (by omega) (by omega)).mp e)), Option.bind_some, show ab_ald (mW J B) 1 2 = some (B 1 2) from rfl, Option.bind_some, hcB]
          simp (disch := omega) only [↓reduceIte, Option.bind_some, ab_b2_some, Option.some.injEq, div10 km9, rem10 km9, m_g0, m_g1, m_g2, m_g3, m_g4, m_g5, m_R0]
          rw [show (2 : Int32) = nI 2 from rfl, m_A1 _ _ (by decide), Option.bind_some, m_S1 _ _ _ (by decide), Option.bind_some]
          simp (disch := omega) only [up2_at, upd_ne]
          rw [hcB, nI_1]
          rfl
    · refine ok_err (tp := tp) (-1000000001) 1 (by decide) h ?_ ?_
      · rw [sX9_paper, if_pos (c_is0 I A tp), cT_0_69 hk2, ab_b2_some, if_neg (by decide), cF_0_9999 hv]
        rfl
      · rw [sX10_paper, if_pos (m_is J B), mT_0_69 hk2, ab_b2_some, if_neg (by decide), mF_0_9999 hv]
        rfl
  · refine ok_err (tp := tp) (-1000000001) 1 (by decide) h ?_ ?_
    · rw [sX9_paper, if_pos (c_is0 I A tp), cF_0_69 hk]
      rfl
    · rw [sX10_paper, if_pos (m_is J B), mF_0_69 hk]
      rfl
theorem op_release (h : RR n I A J B) (k : Int32) : OK n (sX9_release 0 k (cW I A tp)) (sX10_release 0 k (mW J B)) := by
  obtain ⟨c, hc8, hcB, hcI⟩ := h.many
  by_cases hp : isP k c
  · obtain ⟨j, hj, rfl⟩ := hp
    have hj8 : j < 8 := by omega
    obtain ⟨kd, k6, kB, kI⟩ := h.pv (q := 0) hj8 (by decide)
    obtain ⟨mm, m9, mB, mI⟩ := h.pv (q := 1) hj8 (by decide)
    obtain ⟨db, d9, dB, dI⟩ := h.pv (q := 2) hj8 (by decide)
    obtain ⟨cr, c7, cB, cI⟩ := h.pv (q := 3) hj8 (by decide)
    obtain ⟨up, u1, uB, uI⟩ := h.pv (q := 4) hj8 (by decide)
    simp only [List.getD_cons_zero, List.getD_cons_succ] at k6 m9 c7 u1 d9
    by_cases hu : up = 1
    · subst hu
      refine ok_err (tp := tp) (-1000000003) 3 (by decide) h ?_ ?_
      · rw [sX9_release, if_pos (c_is0 I A tp), c_R0_3, Option.bind_some, c_has_T hcI hj hc8, ab_b2_some, if_neg (by decide), c_R0_3, Option.bind_some, c_R17_0, Option.bind_some, c_Q18 I A tp hj8, Option.bind_some, c_pI I A tp hj8 4 (by decide), Option.bind_some, uI]
        rfl
      · rw [sX10_release, if_pos (m_is J B), m_isP_T hcB hj hc8, ab_b2_some, if_neg (by decide), m_i4 hj8, ab_b2_some, uB]
        rfl
    · have hu0 : up = 0 := by omega
      subst hu0
      obtain ⟨f, ea⟩ := m_alive (J := J) hj8 kB mB k6 m9 (c := cr) (by omega)
      cases hal : alv cr kd mm
      · rw [hal] at ea
        refine ⟨-1000000003, I, up2 A 1 3 (A 1 3 + 1), tp, J, up2 (upB B 6 f) 5 3 (B 5 3 + 1), ?_, ?_, ?_⟩
        · rw [sX9_release, if_pos (c_is0 I A tp), c_R0_3, Option.bind_some, c_has_T hcI hj hc8, ab_b2_some, if_neg (by decide), c_R0_3, Option.bind_some, c_R17_0, Option.bind_some, c_Q18 I A tp hj8, Option.bind_some, c_pI I A tp hj8 4 (by decide), Option.bind_some, uI, if_pos (by decide), c_R0_2, Option.bind_some, c_pI I A tp hj8 3 (by decide), Option.bind_some, cI, c_live h.2.2.2.1 hj8 kI mI k6 m9 (by omega), hal]
          rfl
        · rw [sX10_release, if_pos (m_is J B), m_isP_T hcB hj hc8, ab_b2_some, if_neg (by decide), m_i4 hj8, ab_b2_some, uB, if_neg (by decide), m_i3 hj8, ab_b2_some, cB, ea]
          rfl
        · rw [← h.2.1 3 (by decide) (by decide)]
          exact ((h.congr (cE.refl I A) (mE6 f)).err 3 _).mono
      · rw [hal] at ea
        refine ⟨nI db, upd I (8 + 6 * j + 4) (nI 1), A, tp, J, up2 (upB B 6 f) 1 (8 + 6 * j + 4) (nI 1), ?_, ?_, ?_⟩
        · rw [sX9_release, if_pos (c_is0 I A tp), c_R0_3, Option.bind_some, c_has_T hcI hj hc8, ab_b2_some, if_neg (by decide), c_R0_3, Option.bind_some, c_R17_0, Option.bind_some, c_Q18 I A tp hj8, Option.bind_some, c_pI I A tp hj8 4 (by decide), Option.bind_some, uI, if_pos (by decide), c_R0_2, Option.bind_some, c_pI I A tp hj8 3 (by decide), Option.bind_some, cI, c_live h.2.2.2.1 hj8 kI mI k6 m9 (by omega), hal, ab_b2_some, if_neg (by decide), c_pZ I A tp hj8 (Or.inr rfl), Option.bind_some, c_pI _ A tp hj8 2 (by decide), Option.bind_some, upd_ne (by omega), dI]
          rfl
        · rw [sX10_release, if_pos (m_is J B), m_isP_T hcB hj hc8, ab_b2_some, if_neg (by decide), m_i4 hj8, ab_b2_some, uB, if_neg (by decide), m_i3 hj8, ab_b2_some, cB, ea, ab_b2_some, if_neg (by decide), m_g4 hj8, Option.bind_some, m_i2 hj8, ab_b2_some, up2_at, upd_ne (by omega), upB_ne (by decide), dB]
          rfl
        · exact ((h.congr (cE.refl I A) (mE6 f)).pw (j := j) (q := 4) (k := 1) hj8 (by decide) (by simp)).mono
  · refine ok_err (tp := tp) (-1000000001) 1 (by decide) h ?_ ?_
    · rw [sX9_release, if_pos (c_is0 I A tp), c_R0_3, Option.bind_some, c_has_F hcI hc8 hp]
      rfl
    · rw [sX10_release, if_pos (m_is J B), m_isP_F hcB hc8 hp]
      rfl
theorem op_change (h : RR n I A J B) (k q v : Int32) : OK n (sX9_change 0 k q v (cW I A tp)) (sX10_change 0 k q v (mW J B)) := by
  obtain ⟨c, hc8, hcB, hcI⟩ := h.many
  by_cases hq : inR q 0 2
  · have hq2 := hq
    obtain ⟨t, -, ht, rfl⟩ := hq
    by_cases hp : isP k c
    · obtain ⟨j, hj, rfl⟩ := hp
      have hj8 : j < 8 := by omega
      rcases (show t = 0 ∨ t = 1 ∨ t = 2 by omega) with rfl | rfl | rfl
      · by_cases hv : inR v 0 9999
        · have hv2 := hv
          obtain ⟨z, -, hz, rfl⟩ := hv
          refine ⟨I (8 + 6 * j + 2), upd I (8 + 6 * j + 2) (nI z), A, tp, J, up2 B 1 (8 + 6 * j + 2) (nI z), ?_, ?_, (h.pw (j := j) (q := 2) (k := z) hj8 (by decide) (by simp; omega)).mono⟩
          · rw [sX9_change, if_pos (c_is0 I A tp), c_R0_3, Option.bind_some, c_has_T hcI hj hc8, ab_b2_some, if_neg (by decide), cT_0_2 hq2, ab_b2_some, if_neg (by decide), show sX9_mostOf (nI 0) (cW I A tp) = some (9999, cW I A tp) from rfl, ab_b2_some, cT_0_9999 hv2, ab_b2_some, if_neg (by decide), c_R0_3, Option.bind_some, c_R17_0, Option.bind_some, c_Q18 I A tp hj8, Option.bind_some]
            rw [if_pos (by decide), c_pI I A tp hj8 2 (by decide), Option.bind_some, c_pP I A tp hj8 2 (by decide)]
            rfl
          · rw [sX10_change, if_pos (m_is J B), if_pos (by decide), mT_0_9999 hv2, ab_b2_some, sX10_change_50, m_isP_T hcB hj hc8, ab_b2_some, if_neg (by decide), if_neg (by decide), if_pos (by decide), sX10_change_98, show (2 : Int32) = nI 2 from rfl, m_bk2 hj8 2 (by decide), h.at (okP (j := j) (q := 2) hj8 (by decide))]
            rfl
        · refine ok_err (tp := tp) (-1000000001) 1 (by decide) h ?_ ?_
          · rw [sX9_change, if_pos (c_is0 I A tp), c_R0_3, Option.bind_some, c_has_T hcI hj hc8, ab_b2_some, if_neg (by decide), cT_0_2 hq2, ab_b2_some, if_neg (by decide), show sX9_mostOf (nI 0) (cW I A tp) = some (9999, cW I A tp) from rfl, ab_b2_some, cF_0_9999 hv]
            rfl
          · rw [sX10_change, if_pos (m_is J B), if_pos (by decide), mF_0_9999 hv, ab_b2_some, sX10_change_50, m_isP_T hcB hj hc8]
            rfl
      · by_cases hv : inR v 0 1
        · have hv2 := hv
          obtain ⟨z, -, hz, rfl⟩ := hv
          refine ⟨I (8 + 6 * j + 4), upd I (8 + 6 * j + 4) (nI z), A, tp, J, up2 B 1 (8 + 6 * j + 4) (nI z), ?_, ?_, (h.pw (j := j) (q := 4) (k := z) hj8 (by decide) (by simp; omega)).mono⟩
          · rw [sX9_change, if_pos (c_is0 I A tp), c_R0_3, Option.bind_some, c_has_T hcI hj hc8, ab_b2_some, if_neg (by decide), cT_0_2 hq2, ab_b2_some, if_neg (by decide), show sX9_mostOf (nI 1) (cW I A tp) = some (1, cW I A tp) from rfl, ab_b2_some, cT_0_1 hv2, ab_b2_some, if_neg (by decide), c_R0_3, Option.bind_some, c_R17_0, Option.bind_some, c_Q18 I A tp hj8, Option.bind_some]
            obtain ⟨up, u1, uB, uI⟩ := h.pv (q := 4) hj8 (by decide)
            simp only [List.getD_cons_zero, List.getD_cons_succ] at u1
            rw [if_neg (by decide), if_pos (by decide), c_pI I A tp hj8 4 (by decide), Option.bind_some, uI]
            rcases (show up = 0 ∨ up = 1 by omega) with rfl | rfl <;> rcases (show z = 0 ∨ z = 1 by omega) with rfl | rfl
            · rw [if_pos (by decide), sX9_change_87, if_neg (by decide), sX9_change_101, c_pZ I A tp hj8 (Or.inl rfl)]; rfl
            · rw [if_pos (by decide), sX9_change_87, if_pos (by decide), sX9_change_101, c_pZ I A tp hj8 (Or.inr rfl)]; rfl
            · rw [if_neg (by decide), sX9_change_87, if_neg (by decide), sX9_change_101, c_pZ I A tp hj8 (Or.inl rfl)]; rfl
            · rw [if_neg (by decide), sX9_change_87, if_pos (by decide), sX9_change_101, c_pZ I A tp hj8 (Or.inr rfl)]; rfl
          · rw [sX10_change, if_pos (m_is J B), if_neg (by decide), if_pos (by decide), mT_0_1 hv2, ab_b2_some, sX10_change_50, m_isP_T hcB hj hc8, ab_b2_some, if_neg (by decide), if_neg (by decide), if_neg (by decide), if_pos (by decide), sX10_change_98, show (4 : Int32) = nI 4 from rfl, m_bk2 hj8 4 (by decide), h.at (okP (j := j) (q := 4) hj8 (by decide))]
            rfl
        · refine ok_err (tp := tp) (-1000000001) 1 (by decide) h ?_ ?_
          · rw [sX9_change, if_pos (c_is0 I A tp), c_R0_3, Option.bind_some, c_has_T hcI hj hc8, ab_b2_some, if_neg (by decide), cT_0_2 hq2, ab_b2_some, if_neg (by decide), show sX9_mostOf (nI 1) (cW I A tp) = some (1, cW I A tp) from rfl, ab_b2_some, cF_0_1 hv]
            rfl
          · rw [sX10_change, if_pos (m_is J B), if_neg (by decide), if_pos (by decide), mF_0_1 hv, ab_b2_some, sX10_change_50, m_isP_T hcB hj hc8]
            rfl
      · by_cases hv : inR v 0 999
        · have hv2 := hv
          obtain ⟨z, -, hz, rfl⟩ := hv
          refine ⟨I (8 + 6 * j + 5), upd I (8 + 6 * j + 5) (nI z), A, tp, J, up2 B 1 (8 + 6 * j + 5) (nI z), ?_, ?_, (h.pw (j := j) (q := 5) (k := z) hj8 (by decide) (by simp; omega)).mono⟩
          · rw [sX9_change, if_pos (c_is0 I A tp), c_R0_3, Option.bind_some, c_has_T hcI hj hc8, ab_b2_some, if_neg (by decide), cT_0_2 hq2, ab_b2_some, if_neg (by decide), show sX9_mostOf (nI 2) (cW I A tp) = some (999, cW I A tp) from rfl, ab_b2_some, cT_0_999 hv2, ab_b2_some, if_neg (by decide), c_R0_3, Option.bind_some, c_R17_0, Option.bind_some, c_Q18 I A tp hj8, Option.bind_some]
            rw [if_neg (by decide), if_neg (by decide), c_pI I A tp hj8 5 (by decide), Option.bind_some, c_pP I A tp hj8 5 (by decide)]
            rfl
          · rw [sX10_change, if_pos (m_is J B), if_neg (by decide), if_neg (by decide), if_pos (by decide), mT_0_999 hv2, ab_b2_some, if_neg (by decide), sX10_change_50, m_isP_T hcB hj hc8, ab_b2_some, if_neg (by decide), if_neg (by decide), if_neg (by decide), if_neg (by decide), sX10_change_98, show (5 : Int32) = nI 5 from rfl, m_bk2 hj8 5 (by decide), h.at (okP (j := j) (q := 5) hj8 (by decide))]
            rfl
        · refine ok_err (tp := tp) (-1000000001) 1 (by decide) h ?_ ?_
          · rw [sX9_change, if_pos (c_is0 I A tp), c_R0_3, Option.bind_some, c_has_T hcI hj hc8, ab_b2_some, if_neg (by decide), cT_0_2 hq2, ab_b2_some, if_neg (by decide), show sX9_mostOf (nI 2) (cW I A tp) = some (999, cW I A tp) from rfl, ab_b2_some, cF_0_999 hv]
            rfl
          · rw [sX10_change, if_pos (m_is J B), if_neg (by decide), if_neg (by decide), if_pos (by decide), mF_0_999 hv, ab_b2_some, if_pos (by decide), sX10_change_49, sX10_change_50, m_isP_T hcB hj hc8]
            rfl
    · refine ok_err (tp := tp) (-1000000001) 1 (by decide) h ?_ ?_
      · rw [sX9_change, if_pos (c_is0 I A tp), c_R0_3, Option.bind_some, c_has_F hcI hc8 hp]
        rfl
      · rw [sX10_change, if_pos (m_is J B)]
        have e50 : ∀ p0, sX10_change_50 0 k (nI t) v p0 (mW J B) = some (-1000000001, mW J (up2 B 5 1 (B 5 1 + 1))) := fun p0 => by
          rw [sX10_change_50, m_isP_F hcB hc8 hp]
          rfl
        have hin : ∀ lo hi : Int32, ∃ z, sX10_in v lo hi (mW J B) = some (z, mW J B) := fun lo hi => by
          rw [sX10_in]
          repeat' split
          all_goals exact ⟨_, rfl⟩
        rcases (show t = 0 ∨ t = 1 ∨ t = 2 by omega) with rfl | rfl | rfl
        · obtain ⟨z, ez⟩ := hin 0 9999
          rw [if_pos (by decide), ez, ab_b2_some, e50]
        · obtain ⟨z, ez⟩ := hin 0 1
          rw [if_neg (by decide), if_pos (by decide), ez, ab_b2_some, e50]
        · obtain ⟨z, ez⟩ := hin 0 999
          rw [if_neg (by decide), if_neg (by decide), if_pos (by decide), ez, ab_b2_some, sX10_change_49, e50, e50]
          split <;> rfl
  · have hn : q ≠ 0 ∧ q ≠ 1 ∧ q ≠ 2 := ⟨fun e => hq ⟨0, by omega, by omega, e⟩, fun e => hq ⟨1, by omega, by omega, e⟩, fun e => hq ⟨2, by omega, by omega, e⟩⟩
    by_cases hp : isP k c
    · obtain ⟨j, hj, rfl⟩ := hp
      refine ok_err (tp := tp) (-1000000001) 1 (by decide) h ?_ ?_
      · rw [sX9_change, if_pos (c_is0 I A tp), c_R0_3, Option.bind_some, c_has_T hcI hj hc8, ab_b2_some, if_neg (by decide), cF_0_2 hq]
        rfl
      · rw [sX10_change, if_pos (m_is J B), if_neg hn.1, if_neg hn.2.1, if_neg hn.2.2, sX10_change_49, sX10_change_50, m_isP_T hcB hj hc8]
        rfl
    · refine ok_err (tp := tp) (-1000000001) 1 (by decide) h ?_ ?_
      · rw [sX9_change, if_pos (c_is0 I A tp), c_R0_3, Option.bind_some, c_has_F hcI hc8 hp]
        rfl
      · rw [sX10_change, if_pos (m_is J B), if_neg hn.1, if_neg hn.2.1, if_neg hn.2.2, sX10_change_49, sX10_change_50, m_isP_F hcB hc8 hp]
        rfl
end OP
