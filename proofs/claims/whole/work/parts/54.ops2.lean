def stf (k m : Nat) : Nat := if k = 1 then 8 - m % 4 else if k = 2 then 4 else if k = 3 then 6 else if k = 4 then 7 - m % 4 else if k = 5 then 4 + m % 2 else if k = 6 then 3 else 8
def wdl (k m : Nat) : Nat := if k = 1 then 4 + m % 3 else if k = 2 then 5 else if k = 3 then 3 else if k = 4 then 4 + m % 3 else if k = 5 then 5 else if k = 6 then 6 else 4
theorem stf_rng {k m : Nat} (hk : k ≤ 6) (hm : m ≤ 9) : 3 ≤ stf k m ∧ stf k m ≤ 8 := by unfold stf; (repeat' split) <;> omega
theorem wdl_rng {k m : Nat} (hk : k ≤ 6) (hm : m ≤ 9) : 3 ≤ wdl k m ∧ wdl k m ≤ 6 := by unfold wdl; (repeat' split) <;> omega
def alv (c k m : Nat) : Bool := c != 0 && wid c ≤ wdl k m
section OP
variable {n : Nat} {I J : Nat → Int32} {A B : Nat → Nat → Int32} {tp : Nat}
set_option maxHeartbeats 2000000 in
theorem c_stiff {j kd mm : Nat} (hj : j < 8) (hk : I (8 + 6 * j + 0) = nI kd) (hm : I (8 + 6 * j + 1) = nI mm) (k6 : kd ≤ 6) (m9 : mm ≤ 9) : sX3_stiff (22 + j) (cW I A tp) = some (nI (stf kd mm), cW I A tp) := by
  simp only [sX3_stiff, c_pis I A tp hj, c_pI I A tp hj 0 (by decide), c_pI I A tp hj 1 (by decide), hk, hm, Option.bind_some, ↓reduceIte]
  generalize cW I A tp = w
  rcases (show kd = 0 ∨ kd = 1 ∨ kd = 2 ∨ kd = 3 ∨ kd = 4 ∨ kd = 5 ∨ kd = 6 by omega) with rfl | rfl | rfl | rfl | rfl | rfl | rfl <;> rcases (show mm = 0 ∨ mm = 1 ∨ mm = 2 ∨ mm = 3 ∨ mm = 4 ∨ mm = 5 ∨ mm = 6 ∨ mm = 7 ∨ mm = 8 ∨ mm = 9 by omega) with rfl | rfl | rfl | rfl | rfl | rfl | rfl | rfl | rfl | rfl <;> rfl
set_option maxHeartbeats 2000000 in
theorem c_widest {j kd mm : Nat} (hj : j < 8) (hk : I (8 + 6 * j + 0) = nI kd) (hm : I (8 + 6 * j + 1) = nI mm) (k6 : kd ≤ 6) (m9 : mm ≤ 9) : sX3_widestLiving (22 + j) (cW I A tp) = some (nI (wdl kd mm), cW I A tp) := by
  simp only [sX3_widestLiving, c_pis I A tp hj, c_pI I A tp hj 0 (by decide), c_pI I A tp hj 1 (by decide), hk, hm, Option.bind_some, ↓reduceIte]
  generalize cW I A tp = w
  rcases (show kd = 0 ∨ kd = 1 ∨ kd = 2 ∨ kd = 3 ∨ kd = 4 ∨ kd = 5 ∨ kd = 6 by omega) with rfl | rfl | rfl | rfl | rfl | rfl | rfl <;> rcases (show mm = 0 ∨ mm = 1 ∨ mm = 2 ∨ mm = 3 ∨ mm = 4 ∨ mm = 5 ∨ mm = 6 ∨ mm = 7 ∨ mm = 8 ∨ mm = 9 by omega) with rfl | rfl | rfl | rfl | rfl | rfl | rfl | rfl | rfl | rfl <;> rfl
set_option maxHeartbeats 2000000 in
theorem m_stiff {j kd mm : Nat} (hj : j < 8) (hk : B 1 (8 + 6 * j + 0) = nI kd) (hm : B 1 (8 + 6 * j + 1) = nI mm) (k6 : kd ≤ 6) (m9 : mm ≤ 9) : sX10_stiff 0 (nI j) (mW J B) = some (nI (stf kd mm), mW J B) := by
  simp only [sX10_stiff, m_is, m_i0 hj, m_i1 hj, hk, hm, ab_b2_some, ↓reduceIte]
  generalize mW J B = w
  rcases (show kd = 0 ∨ kd = 1 ∨ kd = 2 ∨ kd = 3 ∨ kd = 4 ∨ kd = 5 ∨ kd = 6 by omega) with rfl | rfl | rfl | rfl | rfl | rfl | rfl <;> rcases (show mm = 0 ∨ mm = 1 ∨ mm = 2 ∨ mm = 3 ∨ mm = 4 ∨ mm = 5 ∨ mm = 6 ∨ mm = 7 ∨ mm = 8 ∨ mm = 9 by omega) with rfl | rfl | rfl | rfl | rfl | rfl | rfl | rfl | rfl | rfl <;> rfl
set_option maxHeartbeats 2000000 in
theorem m_widest {j kd mm : Nat} (hj : j < 8) (hk : B 1 (8 + 6 * j + 0) = nI kd) (hm : B 1 (8 + 6 * j + 1) = nI mm) (k6 : kd ≤ 6) (m9 : mm ≤ 9) : sX10_widest 0 (nI j) (mW J B) = some (nI (wdl kd mm), mW J B) := by
  simp only [sX10_widest, m_is, m_i0 hj, m_i1 hj, hk, hm, ab_b2_some, ↓reduceIte]
  generalize mW J B = w
  rcases (show kd = 0 ∨ kd = 1 ∨ kd = 2 ∨ kd = 3 ∨ kd = 4 ∨ kd = 5 ∨ kd = 6 by omega) with rfl | rfl | rfl | rfl | rfl | rfl | rfl <;> rcases (show mm = 0 ∨ mm = 1 ∨ mm = 2 ∨ mm = 3 ∨ mm = 4 ∨ mm = 5 ∨ mm = 6 ∨ mm = 7 ∨ mm = 8 ∨ mm = 9 by omega) with rfl | rfl | rfl | rfl | rfl | rfl | rfl | rfl | rfl | rfl <;> rfl
def bI (b : Bool) : Int32 := if b then 1 else 0
theorem c_live {j kd mm c : Nat} (hT : RT (A 12) (A 13)) (hj : j < 8) (hk : I (8 + 6 * j + 0) = nI kd) (hm : I (8 + 6 * j + 1) = nI mm) (k6 : kd ≤ 6) (m9 : mm ≤ 9) (hc : c < 128) : sX6_live 11 (22 + j) (nI c) (cW I A tp) = some (bI (alv c kd mm), cW I A tp) := by
  rw [sX6_live, if_pos (c_is11 I A tp)]
  by_cases h0 : c = 0
  · subst h0; rfl
  · rw [if_neg (nI_ne0 (by omega) (by omega)), c_R11_0, Option.bind_some, c_A12 I A tp hc, Option.bind_some, c_widest hj hk hm k6 m9, ab_b2_some, (hT c hc).1]
    have hw := wid_rng hc
    have hl := wdl_rng k6 m9
    by_cases hlt : wdl kd mm < wid c
    · rw [if_pos (nI_lt hlt (by omega)), show alv c kd mm = false from by simp [alv]; intro _; omega]
      rfl
    · rw [if_neg (nI_nlt (by omega) (by omega)), show alv c kd mm = true from by simp [alv, h0]; omega]
      rfl
theorem m_alive {j kd mm c : Nat} (hj : j < 8) (hk : B 1 (8 + 6 * j + 0) = nI kd) (hm : B 1 (8 + 6 * j + 1) = nI mm) (k6 : kd ≤ 6) (m9 : mm ≤ 9) (hc : c < 128) : ∃ f, sX10_isAlive 0 (nI j) (nI c) (mW J B) = some (bI (alv c kd mm), mW J (upB B 6 f)) := by
  rw [sX10_isAlive, if_pos (m_is J B)]
  by_cases h0 : c = 0
  · subst h0; exact ⟨B 6, by rw [upB_id]; rfl⟩
  · refine ⟨lyF c 7 (B 6), ?_⟩
    rw [if_neg (nI_ne0 (by omega) (by omega)), m_wide hc, ab_b2_some, m_widest hj (by rw [upB_ne (by decide)]; exact hk) (by rw [upB_ne (by decide)]; exact hm) k6 m9, ab_b2_some]
    have hw := wid_rng hc
    have hl := wdl_rng k6 m9
    by_cases hlt : wdl kd mm < wid c
    · rw [if_pos (nI_lt hlt (by omega)), show alv c kd mm = false from by simp [alv]; intro _; omega]
      rfl
    · rw [if_neg (nI_nlt (by omega) (by omega)), show alv c kd mm = true from by simp [alv, h0]; omega]
      rfl
theorem mE6 (f : Nat → Int32) : mE J B J (upB B 6 f) := mE.up f (by simp [bJ])
theorem op_shape (h : RR n I A J B) (a v : Int32) : OK n (sX9_shape 0 a v (cW I A tp)) (sX10_shape 0 a v (mW J B)) := by
  by_cases ha : inR a 0 127
  · have ha2 := ha
    obtain ⟨c, -, hc, rfl⟩ := ha
    have es : sX10_isSet (nI c) (mW J B) = some (1, mW J B) := by rw [sX10_isSet, mT_0_127 ha2]; rfl
    by_cases hv : inR v 0 1
    · have hv2 := hv
      obtain ⟨q, -, hq, rfl⟩ := hv
      obtain ⟨t1, t2⟩ := h.2.2.2.1 c (by omega)
      rcases (show q = 0 ∨ q = 1 by omega) with rfl | rfl
      · refine ok_same (tp := tp) (nI (wid c)) h ?_ ?_ (cE.refl I A) (mE6 (lyF c 7 (B 6)))
        · rw [sX9_shape, if_pos (c_is0 I A tp)]
          simp (disch := omega) only [↓reduceIte, Option.bind_some, ab_b2_some, Option.some.injEq, cT_0_127 ha2, cT_0_1 hv2]
          rw [if_neg (by decide), if_neg (by decide), if_pos (by decide), c_R0_2, Option.bind_some, c_R11_0, Option.bind_some, c_A12 I A tp (by omega), t1]
          rfl
        · rw [sX10_shape, if_pos (m_is J B)]
          simp (disch := omega) only [↓reduceIte, Option.bind_some, ab_b2_some, Option.some.injEq, es, mT_0_1 hv2]
          rw [if_neg (by decide), if_neg (by decide), if_pos (by decide), m_wide (by omega)]
          rfl
      · refine ok_same (tp := tp) (nI (thk c)) h ?_ ?_ (cE.refl I A) (mE6 (lyF c 7 (B 6)))
        · rw [sX9_shape, if_pos (c_is0 I A tp)]
          simp (disch := omega) only [↓reduceIte, Option.bind_some, ab_b2_some, Option.some.injEq, cT_0_127 ha2, cT_0_1 hv2]
          rw [if_neg (by decide), if_neg (by decide), if_neg (by decide), c_R0_2, Option.bind_some, c_R11_1, Option.bind_some, c_A13 I A tp (by omega), t2]
          rfl
        · rw [sX10_shape, if_pos (m_is J B)]
          simp (disch := omega) only [↓reduceIte, Option.bind_some, ab_b2_some, Option.some.injEq, es, mT_0_1 hv2]
          rw [if_neg (by decide), if_neg (by decide), if_neg (by decide), m_thick (by omega)]
          rfl
    · refine ok_err (tp := tp) (-1000000001) 1 (by decide) h ?_ ?_
      · rw [sX9_shape, if_pos (c_is0 I A tp), cT_0_127 ha2, ab_b2_some, cF_0_1 hv]
        rfl
      · rw [sX10_shape, if_pos (m_is J B), es, ab_b2_some, mF_0_1 hv]
        rfl
  · refine ok_err (tp := tp) (-1000000001) 1 (by decide) h ?_ ?_
    · rw [sX9_shape, if_pos (c_is0 I A tp), cF_0_127 ha]
      rfl
    · rw [sX10_shape, if_pos (m_is J B), show sX10_isSet a (mW J B) = some (0, mW J B) from by rw [sX10_isSet, mF_0_127 ha]; rfl]
      rfl
theorem fx {c q : Nat} (hc : c < 128) (hq : q < 7) : nI c ^^^ (1 <<< (nI q &&& 31)) = nI (c ^^^ 2 ^ q) ∧ c ^^^ 2 ^ q < 128 := by
  have h : ∀ c, c < 128 → ∀ q, q < 7 → nI c ^^^ (1 <<< (nI q &&& 31)) = nI (c ^^^ 2 ^ q) ∧ c ^^^ 2 ^ q < 128 := by decide +kernel
  exact h c hc q hq
theorem op_fold (h : RR n I A J B) (k v : Int32) : OK n (sX9_fold 0 k v (cW I A tp)) (sX10_fold 0 k v (mW J B)) := by
  obtain ⟨c, hc8, hcB, hcI⟩ := h.many
  by_cases hp : isP k c
  · obtain ⟨j, hj, rfl⟩ := hp
    have hj8 : j < 8 := by omega
    by_cases hv : inR v 0 6
    · have hv2 := hv
      obtain ⟨q, -, hq, rfl⟩ := hv
      obtain ⟨kd, k6, kB, kI⟩ := h.pv (q := 0) hj8 (by decide)
      obtain ⟨mm, m9, mB, mI⟩ := h.pv (q := 1) hj8 (by decide)
      obtain ⟨cr, c7, cB, cI⟩ := h.pv (q := 3) hj8 (by decide)
      obtain ⟨up, u1, uB, uI⟩ := h.pv (q := 4) hj8 (by decide)
      simp only [List.getD_cons_zero, List.getD_cons_succ] at k6 m9 c7 u1
      obtain ⟨fx1, fx2⟩ := fx (c := cr) (q := q) (by omega) (by omega)
      obtain ⟨t1, t2⟩ := h.2.2.2.1 _ fx2
      have hs := stf_rng k6 m9
      have ht := (mxl_thk fx2).2
      by_cases hu : up = 1
      · subst hu
        refine ok_err (tp := tp) (-1000000003) 3 (by decide) h ?_ ?_
        · rw [sX9_fold, if_pos (c_is0 I A tp), c_R0_3, Option.bind_some, c_has_T hcI hj hc8, ab_b2_some, cT_0_6 hv2, ab_b2_some, if_neg (by decide), if_neg (by decide), c_R0_3, Option.bind_some, c_R17_0, Option.bind_some, c_Q18 I A tp hj8, Option.bind_some, c_pI I A tp hj8 3 (by decide), Option.bind_some, c_pI I A tp hj8 4 (by decide), Option.bind_some, uI]
          rfl
        · rw [sX10_fold, if_pos (m_is J B), m_isP_T hcB hj hc8, ab_b2_some, mT_0_6 hv2, ab_b2_some, if_neg (by decide), if_neg (by decide), m_i3 hj8, ab_b2_some, m_i4 hj8, ab_b2_some, uB]
          rfl
      · have hu0 : up = 0 := by omega
        subst hu0
        by_cases hlt : stf kd mm < thk (cr ^^^ 2 ^ q)
        · refine ⟨-1000000003, I, up2 A 1 3 (A 1 3 + 1), tp, J, up2 (upB B 6 (lyF (cr ^^^ 2 ^ q) 7 (B 6))) 5 3 (B 5 3 + 1), ?_, ?_, ?_⟩
          · rw [sX9_fold, if_pos (c_is0 I A tp)]
            simp (disch := omega) only [↓reduceIte, Option.bind_some, ab_b2_some, Option.some.injEq, c_R0_3, c_has_T hcI hj hc8, cT_0_6 hv2, c_R17_0, c_Q18, c_pI, cI, uI, fx1, c_R0_2, c_R11_1, c_A13, t2, c_stiff hj8 kI mI k6 m9]
            rw [if_neg (by decide), if_neg (by decide), if_pos (by decide), if_pos (nI_lt hlt (by omega))]
            rfl
          · rw [sX10_fold, if_pos (m_is J B)]
            simp (disch := omega) only [↓reduceIte, Option.bind_some, ab_b2_some, Option.some.injEq, m_isP_T hcB hj hc8, mT_0_6 hv2, m_i3, m_i4, cB, uB, fx1, m_thick fx2]
            rw [if_neg (by decide), if_neg (by decide), if_neg (by decide), m_stiff hj8 (by rw [upB_ne (by decide)]; exact kB) (by rw [upB_ne (by decide)]; exact mB) k6 m9, ab_b2_some, if_pos (nI_lt hlt (by omega))]
            rfl
          · rw [← h.2.1 3 (by decide) (by decide)]
            exact ((h.congr (cE.refl I A) (mE6 _)).err 3 _).mono
        · refine ⟨nI (wid (cr ^^^ 2 ^ q)), upd I (8 + 6 * j + 3) (nI (cr ^^^ 2 ^ q)), A, tp, J, upB (up2 (upB B 6 (lyF (cr ^^^ 2 ^ q) 7 (B 6))) 1 (8 + 6 * j + 3) (nI (cr ^^^ 2 ^ q))) 6 (lyF (cr ^^^ 2 ^ q) 7 (lyF (cr ^^^ 2 ^ q) 7 (B 6))), ?_, ?_, ?_⟩
          · rw [sX9_fold, if_pos (c_is0 I A tp)]
            simp (disch := omega) only [↓reduceIte, Option.bind_some, ab_b2_some, Option.some.injEq, c_R0_3, c_has_T hcI hj hc8, cT_0_6 hv2, c_R17_0, c_Q18, c_pI, cI, uI, fx1, c_R0_2, c_R11_1, c_A13, t2, c_stiff hj8 kI mI k6 m9, c_pP, c_R11_0, c_A12, t1]
            rw [if_neg (by decide), if_neg (by decide), if_pos (by decide), if_neg (nI_nlt (by omega) (by omega))]
          · rw [sX10_fold, if_pos (m_is J B)]
            simp (disch := omega) only [↓reduceIte, Option.bind_some, ab_b2_some, Option.some.injEq, m_isP_T hcB hj hc8, mT_0_6 hv2, m_i3, m_i4, cB, uB, fx1, m_thick fx2]
            rw [if_neg (by decide), if_neg (by decide), if_neg (by decide), m_stiff hj8 (by rw [upB_ne (by decide)]; exact kB) (by rw [upB_ne (by decide)]; exact mB) k6 m9, ab_b2_some, if_neg (nI_nlt (by omega) (by omega)), m_g3 hj8, Option.bind_some, m_wide fx2]
            rfl
          · exact (((h.congr (cE.refl I A) (mE6 _)).pw (j := j) (q := 3) (k := cr ^^^ 2 ^ q) hj8 (by decide) (by simp; omega)).congr (cE.refl _ _) (mE6 _)).mono
    · refine ok_err (tp := tp) (-1000000001) 1 (by decide) h ?_ ?_
      · rw [sX9_fold, if_pos (c_is0 I A tp), c_R0_3, Option.bind_some, c_has_T hcI hj hc8, ab_b2_some, cF_0_6 hv]
        rfl
      · rw [sX10_fold, if_pos (m_is J B), m_isP_T hcB hj hc8, ab_b2_some, mF_0_6 hv]
        rfl
  · refine ok_err (tp := tp) (-1000000001) 1 (by decide) h ?_ ?_
    · rw [sX9_fold, if_pos (c_is0 I A tp), c_R0_3, Option.bind_some, c_has_F hcI hc8 hp]
      rfl
    · rw [sX10_fold, if_pos (m_is J B), m_isP_F hcB hc8 hp]
      rfl
end OP
