section OP
variable {n : Nat} {I J : Nat → Int32} {A B : Nat → Nat → Int32} {tp : Nat}
theorem RR.wait (h : RR n I A J B) {j : Nat} (v : Int32) (hj : j < 20) : RR n I (up2 A 21 j v) J (up2 B 1 (106 + j) v) := by
  obtain ⟨⟨d1, d2, d3, d4, d5, d6⟩, h2, h3, h4, h5, h6⟩ := h
  refine ⟨⟨fun q hq => ?_, fun q hq => ?_, fun q hq => ?_, fun q hq q1 => ?_, ?_, ?_⟩, h2, fun s hs => ?_, h4, h5, h6⟩
  · have := hq.1
    rw [up2_at, upd_ne (by omega)]; exact d1 q hq
  · rw [up2_ne (by decide), up2_at, upd_ne (by omega)]; exact d2 q hq
  · rw [up2_at, up2_at]
    by_cases e : q = j
    · subst e; rw [upd_same, upd_same]
    · rw [upd_ne e, upd_ne (by omega)]; exact d3 q hq
  · have := hq.1
    rw [up2_at, upd_ne (by omega)]; exact d4 q hq q1
  · rw [up2_ne (A := A) (by decide), up2_at, upd_ne (by omega), show (fun q => upd (B 1) (106 + j) v (126 + q)) = (fun q => B 1 (126 + q)) from funext fun q => upd_ne (by omega)]
    exact d5
  · rw [up2_ne (A := A) (by decide), up2_at, upd_ne (by omega), show (fun q => upd (B 1) (106 + j) v (176 + q)) = (fun q => B 1 (176 + q)) from funext fun q => upd_ne (by omega)]
    exact d6
  · rw [up2_ne (A := A) (c := 21) (by omega)]
    exact h3 s hs
theorem RR.tape (h : RR n I A J B) {j : Nat} (v : Int32) (hj : j < 50) : RR n I (up2 A 19 j v) J (up2 B 1 (56 + j) v) := by
  obtain ⟨⟨d1, d2, d3, d4, d5, d6⟩, h2, h3, h4, h5, h6⟩ := h
  refine ⟨⟨fun q hq => ?_, fun q hq => ?_, fun q hq => ?_, fun q hq q1 => ?_, ?_, ?_⟩, h2, fun s hs => ?_, h4, h5, h6⟩
  · have := hq.1
    rw [up2_at, upd_ne (by omega)]; exact d1 q hq
  · rw [up2_at, up2_at]
    by_cases e : q = j
    · subst e; rw [upd_same, upd_same]
    · rw [upd_ne e, upd_ne (by omega)]; exact d2 q hq
  · rw [up2_ne (by decide), up2_at, upd_ne (by omega)]; exact d3 q hq
  · have := hq.1
    rw [up2_at, upd_ne (by omega)]; exact d4 q hq q1
  · rw [up2_ne (A := A) (by decide), up2_at, upd_ne (by omega), show (fun q => upd (B 1) (56 + j) v (126 + q)) = (fun q => B 1 (126 + q)) from funext fun q => upd_ne (by omega)]
    exact d5
  · rw [up2_ne (A := A) (by decide), up2_at, upd_ne (by omega), show (fun q => upd (B 1) (56 + j) v (176 + q)) = (fun q => B 1 (176 + q)) from funext fun q => upd_ne (by omega)]
    exact d6
  · rw [up2_ne (A := A) (c := 19) (by omega)]
    exact h3 s hs
theorem op_tell (h : RR n I A J B) (v : Int32) : OK n (sX9_tell 0 v (cW I A tp)) (sX10_tell 0 v (mW J B)) := by
  obtain ⟨c, hc, hcB, hcI⟩ := h.val (i := 4) (by unfold okI; omega) (by decide)
  have hc : c ≤ 20 := hc
  by_cases hf : c = 20
  · subst hf
    refine ok_err (tp := tp) (-1000000004) 4 (by decide) h ?_ ?_
    · rw [sX9_tell, if_pos (c_is0 I A tp), c_R0_3, Option.bind_some, c_I17_8, Option.bind_some, hcI]
      rfl
    · rw [sX10_tell, if_pos (m_is J B), m_R0, Option.bind_some, show ab_ald (mW J B) 1 4 = some (B 1 4) from rfl, Option.bind_some, hcB]
      rfl
  · have h1 := (h.wait (j := c) v (by omega)).desk (i := 4) (v := nI (c + 1)) (by unfold okI; omega) (Or.inr (inN_nI (by show c + 1 ≤ 20; omega)))
    refine ⟨nI (c + 1), _, _, tp, J, _, ?_, ?_, h1.mono⟩
    · have hlt : nI c < 20 := nI_lt (b := 20) (by omega) (by omega)
      simp (disch := omega) only [sX9_tell, c_is0, ↓reduceIte, Option.bind_some, ab_b2_some, Option.some.injEq, c_R0_3, c_I17_8, hcI, hlt, c_R17_3, c_S21, c_P17_8, nI_1, upd_same]
    · have hne : ¬ nI c = 20 := fun e => hf ((nI_eq (b := 20) (by omega) (by omega)).mp e)
      have e4 : ∀ J B, ab_ald (mW J B) 1 4 = some (B 1 4) := fun _ _ => rfl
      have s4 : ∀ J B v, ab_ast (mW J B) 1 4 v = some (mW J (up2 B 1 4 v)) := fun _ _ _ => rfl
      have ea : (106 + nI c : Int32) = nI (106 + c) := by rw [← nI_add]; rfl
      simp (disch := omega) only [sX10_tell, m_is, ↓reduceIte, Option.bind_some, ab_b2_some, Option.some.injEq, m_R0, e4, hcB, hne, ea, m_S1, up2_at, upd_ne, s4, nI_1, upd_same]
theorem op_trace (h : RR n I A J B) (v : Int32) : OK n (sX9_trace 0 v (cW I A tp)) (sX10_trace 0 v (mW J B)) := by
  obtain ⟨v1, ⟨c, hc, hcJ⟩, v3⟩ := h.2.2.2.2.1
  have hcI : I 424 = nI c := v1.trans hcJ
  have e0 : nI c - 1 = if c = 0 then -1 else nI (c - 1) := by
    rcases Nat.eq_zero_or_pos c with rfl | hp
    · rfl
    · rw [if_neg (by omega), ← pk_sub hp]; rfl
  by_cases hp : isP v c
  · obtain ⟨j, hj, rfl⟩ := hp
    have hR : inR (nI j) 0 (c - 1) := ⟨j, by omega, by omega, rfl⟩
    refine ok_same (tp := tp) (A 64 j) h ?_ ?_ (cE.refl I A) (mE.refl J B)
    · rw [sX9_trace, if_pos (c_is0 I A tp), c_R0_7, Option.bind_some, c_I63_1, Option.bind_some, hcI, e0, if_neg (by omega), show sX9_within (nI j) 0 (nI (c - 1)) (cW I A tp) = some (1, cW I A tp) from c_in_T (lo := 0) _ (by omega) (by omega) hR, ab_b2_some, if_neg (by decide), c_R0_7, Option.bind_some, c_R63_0, Option.bind_some, c_A64 I A tp (by omega)]
      rfl
    · rw [sX10_trace, if_pos (m_is J B), m_I22, Option.bind_some, hcJ, e0, if_neg (by omega), show sX10_in (nI j) 0 (nI (c - 1)) (mW J B) = some (1, mW J B) from m_in_T (lo := 0) _ (by omega) (by omega) hR, ab_b2_some, if_neg (by decide), m_R21, Option.bind_some, m_A12 J B (by omega), v3 j (by omega)]
      rfl
  · refine ok_err (tp := tp) (-1000000002) 2 (by decide) h ?_ ?_
    · rw [sX9_trace, if_pos (c_is0 I A tp), c_R0_7, Option.bind_some, c_I63_1, Option.bind_some, hcI, e0]
      have e1 : sX9_within v 0 (if c = 0 then -1 else nI (c - 1)) (cW I A tp) = some (0, cW I A tp) := by
        by_cases h0 : v < 0
        · rw [sX9_within, if_pos h0]; rfl
        · obtain ⟨j, hj, rfl⟩ := nI_of h0
          rw [sX9_within, if_neg h0]
          by_cases hc0 : c = 0
          · rw [if_pos hc0, if_pos (by rw [Int32.lt_iff_toInt_lt, nI_toInt hj, show (-1 : Int32).toInt = -1 from rfl]; omega)]; rfl
          · rw [if_neg hc0, if_pos (nI_lt (by rcases Nat.lt_or_ge j c with q | q; exact absurd ⟨j, q, rfl⟩ hp; omega) hj)]; rfl
      rw [e1]
      rfl
    · rw [sX10_trace, if_pos (m_is J B), m_I22, Option.bind_some, hcJ, e0]
      have e1 : sX10_in v 0 (if c = 0 then -1 else nI (c - 1)) (mW J B) = some (0, mW J B) := by
        by_cases h0 : v < 0
        · rw [sX10_in, if_pos h0]; rfl
        · obtain ⟨j, hj, rfl⟩ := nI_of h0
          rw [sX10_in, if_neg h0]
          by_cases hc0 : c = 0
          · rw [if_pos hc0, if_pos (by rw [Int32.lt_iff_toInt_lt, nI_toInt hj, show (-1 : Int32).toInt = -1 from rfl]; omega)]; rfl
          · rw [if_neg hc0, if_pos (nI_lt (by rcases Nat.lt_or_ge j c with q | q; exact absurd ⟨j, q, rfl⟩ hp; omega) hj)]; rfl
      rw [e1]
      rfl
def isK (k q : Nat) : Bool := k == q || (k != 0 && q == 0) || (k > 3 && k - 3 == q)
theorem m_as0 {j q m : Nat} (hj : j < 8) (hq : q ≤ 6) : sX10_as_32 (m + 2) 0 (nI j) (nI q) (nI 0) (mW J B) = if q = 0 then some (B 1 (8 + 6 * j + 1), mW J B) else some (-1000000005, mW J (up2 B 5 5 (B 5 5 + 1))) := by
  rw [sX10_as_32, if_neg (by decide)]
  by_cases h : q = 0
  · subst h
    rw [if_pos rfl, if_pos rfl, sX10_as_49, if_neg (by decide), m_i1 hj]
    rfl
  · rw [if_neg (fun e => h ((nI_eq (by decide) (by omega)).mp e).symm), if_neg h, show sX10_above (nI 0) (mW J B) = some (-1, mW J B) from rfl, ab_b2_some, sX10_as_32, if_pos (by decide), sX10_as_49, if_pos (by decide), m_err5]
    rfl
theorem m_as1 {j q k m : Nat} (hj : j < 8) (hq : q ≤ 6) (hk : 1 ≤ k ∧ k ≤ 3) : sX10_as_32 (m + 3) 0 (nI j) (nI q) (nI k) (mW J B) = if k = q ∨ q = 0 then some (B 1 (8 + 6 * j + 1), mW J B) else some (-1000000005, mW J (up2 B 5 5 (B 5 5 + 1))) := by
  rw [sX10_as_32, if_neg (nI_pos (by omega))]
  by_cases h : k = q
  · subst h
    rw [if_pos rfl, if_pos (Or.inl rfl), sX10_as_49, if_neg (nI_pos (by omega)), m_i1 hj]
    rfl
  · rw [if_neg (fun e => h ((nI_eq (by omega) (by omega)).mp e)), sX10_above, if_neg (nI_ne0 (by omega) (by omega)), if_neg (show ¬ (3 : Int32) < nI k from nI_nlt (b := 3) (a := k) |> fun f => by rcases (show k = 1 ∨ k = 2 ∨ k = 3 by omega) with rfl | rfl | rfl <;> decide), ab_b2_some, show (0 : Int32) = nI 0 from rfl, m_as0 hj hq]
    by_cases h0 : q = 0
    · rw [if_pos h0, if_pos (Or.inr h0)]
    · rw [if_neg h0, if_neg (fun e => e.elim h h0)]
theorem m_as2 {j q k m : Nat} (hj : j < 8) (hq : q ≤ 6) (hk : 4 ≤ k ∧ k ≤ 6) : sX10_as_32 (m + 4) 0 (nI j) (nI q) (nI k) (mW J B) = if k = q ∨ k - 3 = q ∨ q = 0 then some (B 1 (8 + 6 * j + 1), mW J B) else some (-1000000005, mW J (up2 B 5 5 (B 5 5 + 1))) := by
  rw [sX10_as_32, if_neg (nI_pos (by omega))]
  by_cases h : k = q
  · subst h
    rw [if_pos rfl, if_pos (Or.inl rfl), sX10_as_49, if_neg (nI_pos (by omega)), m_i1 hj]
    rfl
  · rw [if_neg (fun e => h ((nI_eq (by omega) (by omega)).mp e)), sX10_above, if_neg (nI_ne0 (by omega) (by omega)), if_pos (show (3 : Int32) < nI k from nI_lt (a := 3) (by omega) (by omega)), ab_b2_some, show (nI k - 3 : Int32) = nI (k - 3) from pk_sub (b := 3) (by omega), m_as1 hj hq (by omega)]
    by_cases h0 : k - 3 = q ∨ q = 0
    · rw [if_pos h0, if_pos (Or.inr h0)]
    · rw [if_neg h0, if_neg (fun e => e.elim h h0)]
theorem op_as (h : RR n I A J B) (k v : Int32) : OK n (sX9_as 0 k v (cW I A tp)) (sX10_as 0 k v (mW J B)) := by
  obtain ⟨c, hc8, hcB, hcI⟩ := h.many
  by_cases hp : isP k c
  · obtain ⟨j, hj, rfl⟩ := hp
    have hj8 : j < 8 := by omega
    by_cases hv : inR v 0 6
    · have hv2 := hv
      obtain ⟨q, -, hq, rfl⟩ := hv
      obtain ⟨kd, k6, kB, kI⟩ := h.pv (q := 0) hj8 (by decide)
      obtain ⟨mm, m9, mB, mI⟩ := h.pv (q := 1) hj8 (by decide)
      simp only [List.getD_cons_zero, List.getD_cons_succ] at k6 m9
      have e1 : ∀ w, sX9_isOfKind (nI kd) (nI q) w = some (if isK kd q then 1 else 0, w) := by
        rcases (show kd = 0 ∨ kd = 1 ∨ kd = 2 ∨ kd = 3 ∨ kd = 4 ∨ kd = 5 ∨ kd = 6 by omega) with rfl | rfl | rfl | rfl | rfl | rfl | rfl <;> rcases (show q = 0 ∨ q = 1 ∨ q = 2 ∨ q = 3 ∨ q = 4 ∨ q = 5 ∨ q = 6 by omega) with rfl | rfl | rfl | rfl | rfl | rfl | rfl <;> exact fun _ => rfl
      have e2 : sX10_as_32 1000 0 (nI j) (nI q) (nI kd) (mW J B) = if isK kd q = true then some (B 1 (8 + 6 * j + 1), mW J B) else some (-1000000005, mW J (up2 B 5 5 (B 5 5 + 1))) := by
        rcases (show kd = 0 ∨ (1 ≤ kd ∧ kd ≤ 3) ∨ (4 ≤ kd ∧ kd ≤ 6) by omega) with rfl | hk | hk
        · rw [show (1000 : Nat) = 998 + 2 from rfl, m_as0 hj8 hq]
          by_cases h0 : q = 0
          · rw [if_pos h0, if_pos (by simp [isK, h0])]
          · rw [if_neg h0, if_neg (by simp [isK]; omega)]
        · rw [show (1000 : Nat) = 997 + 3 from rfl, m_as1 hj8 hq hk]
          by_cases h0 : kd = q ∨ q = 0
          · rw [if_pos h0, if_pos (by simp [isK]; omega)]
          · rw [if_neg h0, if_neg (by simp [isK]; omega)]
        · rw [show (1000 : Nat) = 996 + 4 from rfl, m_as2 hj8 hq hk]
          by_cases h0 : kd = q ∨ kd - 3 = q ∨ q = 0
          · rw [if_pos h0, if_pos (by simp [isK]; omega)]
          · rw [if_neg h0, if_neg (by simp [isK]; omega)]
      by_cases hk : isK kd q = true
      · refine ok_same (tp := tp) (nI mm) h ?_ ?_ (cE.refl I A) (mE.refl J B)
        · rw [sX9_as, if_pos (c_is0 I A tp), c_R0_3, Option.bind_some, c_has_T hcI hj hc8, ab_b2_some, if_neg (by decide), cT_0_6 hv2, ab_b2_some, if_neg (by decide), c_R0_3, Option.bind_some, c_R17_0, Option.bind_some, c_Q18 I A tp hj8, Option.bind_some, c_pI I A tp hj8 0 (by decide), Option.bind_some, kI, e1, hk, if_pos rfl, ab_b2_some, if_neg (by decide), c_pI I A tp hj8 1 (by decide), mI]
          rfl
        · rw [sX10_as, if_pos (m_is J B), m_isP_T hcB hj hc8, ab_b2_some, if_neg (by decide), mT_0_6 hv2, ab_b2_some, if_neg (by decide), m_i0 hj8, ab_b2_some, kB, e2, hk, if_pos rfl, mB]
      · refine ok_err (tp := tp) (-1000000005) 5 (by decide) h ?_ ?_
        · rw [sX9_as, if_pos (c_is0 I A tp), c_R0_3, Option.bind_some, c_has_T hcI hj hc8, ab_b2_some, if_neg (by decide), cT_0_6 hv2, ab_b2_some, if_neg (by decide), c_R0_3, Option.bind_some, c_R17_0, Option.bind_some, c_Q18 I A tp hj8, Option.bind_some, c_pI I A tp hj8 0 (by decide), Option.bind_some, kI, e1, if_neg hk, ab_b2_some, if_pos rfl, c_err5]
          rfl
        · rw [sX10_as, if_pos (m_is J B), m_isP_T hcB hj hc8, ab_b2_some, if_neg (by decide), mT_0_6 hv2, ab_b2_some, if_neg (by decide), m_i0 hj8, ab_b2_some, kB, e2, if_neg hk]
    · refine ok_err (tp := tp) (-1000000001) 1 (by decide) h ?_ ?_
      · rw [sX9_as, if_pos (c_is0 I A tp), c_R0_3, Option.bind_some, c_has_T hcI hj hc8, ab_b2_some, if_neg (by decide), cF_0_6 hv]
        rfl
      · rw [sX10_as, if_pos (m_is J B), m_isP_T hcB hj hc8, ab_b2_some, if_neg (by decide), mF_0_6 hv]
        rfl
  · refine ok_err (tp := tp) (-1000000001) 1 (by decide) h ?_ ?_
    · rw [sX9_as, if_pos (c_is0 I A tp), c_R0_3, Option.bind_some, c_has_F hcI hc8 hp]
      rfl
    · rw [sX10_as, if_pos (m_is J B), m_isP_F hcB hc8 hp]
      rfl
end OP
