section OP
variable {n : Nat} {I J : Nat → Int32} {A B : Nat → Nat → Int32} {tp : Nat}
theorem cpy_0 (f g : Nat → Int32) (sp dp : Nat) : va_cpy f g sp dp 0 = g := by funext i; rw [va_cpy, if_neg (by omega)]
theorem cpy_step (f g : Nat → Int32) (sp dp k : Nat) : upd (va_cpy f g sp dp k) (dp + k) (f (sp + k)) = va_cpy f g sp dp (k + 1) := by
  funext i
  by_cases h : i = dp + k
  · subst h
    rw [upd_same, va_cpy, if_pos (by omega)]
    exact congrArg f (by omega)
  · rw [upd_ne h, va_cpy, va_cpy]
    by_cases h2 : dp ≤ i ∧ i < dp + k
    · rw [if_pos h2, if_pos (by omega)]
    · rw [if_neg h2, if_neg (by omega)]
theorem sub_lt {z q i : Nat} (hz : z ≤ 40) (hq : q < 2 ^ 31) (hi : i < 2 ^ 31) : nI z - nI q < nI i ↔ z < q + i := by
  rw [Int32.lt_iff_toInt_lt, Int32.toInt_sub, nI_toInt (by omega), nI_toInt hq, nI_toInt hi]
  simp only [Int.bmod]
  omega
def hld (v q : Int32) (z : Nat) : Prop := ∃ i k, v = nI i ∧ q = nI k ∧ i + k ≤ z
theorem c_holdsT {s z i q : Nat} (hs : s < 4) (hz : z ≤ 40) (hI : I (404 + s) = nI z) (h : i + q ≤ z) : sX5_holds (3 + 2 * s) (nI i) (nI q) (cW I A tp) = some (1, cW I A tp) := by
  rw [sX5_holds, if_pos (c_his I A tp hs), if_neg (nI_pos (by omega)), if_neg (nI_pos (by omega)), c_h2 I A tp hs, Option.bind_some, hI, if_neg (nI_nlt (by omega) (by omega)), Option.bind_some, if_neg (fun e => by have := (sub_lt hz (by omega) (by omega)).mp e; omega)]
  rfl
theorem c_holdsF {s z : Nat} {v q : Int32} (hs : s < 4) (hz : z ≤ 40) (hI : I (404 + s) = nI z) (h : ¬ hld v q z) : sX5_holds (3 + 2 * s) v q (cW I A tp) = some (0, cW I A tp) := by
  rw [sX5_holds, if_pos (c_his I A tp hs)]
  by_cases h1 : v < 0
  · rw [if_pos h1]; rfl
  · rw [if_neg h1]
    by_cases h2 : q < 0
    · rw [if_pos h2]; rfl
    · rw [if_neg h2, c_h2 I A tp hs, Option.bind_some, hI]
      obtain ⟨i, hi, rfl⟩ := nI_of h1
      obtain ⟨k, hk, rfl⟩ := nI_of h2
      by_cases h3 : nI z < nI k
      · rw [if_pos h3]; rfl
      · rw [if_neg h3, Option.bind_some, if_pos ((sub_lt hz hk hi).mpr (by
          rcases Nat.lt_or_ge z (k + i) with h4 | h4
          · exact h4
          · exact absurd ⟨i, k, rfl, rfl, by omega⟩ h))]
        rfl
theorem c_cpyS (I : Nat → Int32) (A : Nat → Nat → Int32) (tp : Nat) {s o i j q : Nat} (hs : s < 4) (ho : o < 4) (h1 : i + q ≤ 40) (h2 : j + q ≤ 40) : ab_cpy (cW I A tp) (4 + 2 * s) (nI i) (4 + 2 * o) (nI j) (nI q) = some (cW I (upB A (4 + 2 * o) (va_cpy (A (4 + 2 * s)) (A (4 + 2 * o)) i j q)) tp) := by
  have hc : ¬ (nI i < 0 ∨ nI j < 0 ∨ nI q < 0 ∨ 40 < (nI i).toNatClampNeg + (nI q).toNatClampNeg ∨ 40 < (nI j).toNatClampNeg + (nI q).toNatClampNeg) := by
    rw [nI_clamp (by omega), nI_clamp (by omega), nI_clamp (by omega)]
    rintro (h | h | h | h | h)
    · exact nI_pos (by omega) h
    · exact nI_pos (by omega) h
    · exact nI_pos (by omega) h
    · omega
    · omega
  rcases (show s = 0 ∨ s = 1 ∨ s = 2 ∨ s = 3 by omega) with rfl | rfl | rfl | rfl <;> rcases (show o = 0 ∨ o = 1 ∨ o = 2 ∨ o = 3 by omega) with rfl | rfl | rfl | rfl <;> (refine (if_neg hc).trans ?_; rw [nI_clamp (by omega), nI_clamp (by omega), nI_clamp (by omega)]; rfl)
theorem e40i (s i k : Nat) : ((40 * nI s + nI i) + nI k : Int32) = nI (40 * s + i + k) := by rw [e40, nI_add]
theorem m_move_156 {o j q : Nat} (ho : o < 4) (h2 : j + q ≤ 40) (F : Nat → Int32) : ∀ (m t k : Nat), t + m = q → sX10_move_156 (k + m + 1) 0 (nI o) (nI j) (nI q) (nI t) (mW J (upB (upB B 11 F) 10 (va_cpy F (B 10) 0 (40 * o + j) t))) = some (nI q, mW J (upB (upB B 11 F) 10 (va_cpy F (B 10) 0 (40 * o + j) q))) := by
  intro m
  induction m with
  | zero =>
    intro t k ht
    have : t = q := by omega
    subst this
    rw [sX10_move_156, if_neg (nI_nlt (by omega) (by omega))]
  | succ m ih =>
    intro t k ht
    rw [show k + (m + 1) + 1 = (k + m + 1) + 1 by omega, sX10_move_156, if_pos (nI_lt (by omega) (by omega)), m_R19, Option.bind_some, m_R20, Option.bind_some, m_A11 _ _ (by omega), Option.bind_some, e40i, m_S10 _ _ _ (by omega), Option.bind_some, upB_up2, nI_1]
    have e : upB (upB B 11 F) 10 (va_cpy F (B 10) 0 (40 * o + j) t) 11 t = F (0 + t) := by rw [Nat.zero_add]; rfl
    rw [e, cpy_step]
    exact ih (t + 1) k (by omega)
theorem m_move_119 {s i o j q : Nat} (hs : s < 4) (ho : o < 4) (h1 : i + q ≤ 40) (h2 : j + q ≤ 40) : ∀ (m t k : Nat), t + m = q → sX10_move_119 (k + m + 1) 0 (nI s) (nI i) (nI o) (nI j) (nI q) (nI t) (mW J (upB B 11 (va_cpy (B 10) (B 11) (40 * s + i) 0 t))) = some (nI q, mW J (upB (upB B 11 (va_cpy (B 10) (B 11) (40 * s + i) 0 q)) 10 (va_cpy (va_cpy (B 10) (B 11) (40 * s + i) 0 q) (B 10) 0 (40 * o + j) q))) := by
  intro m
  induction m with
  | zero =>
    intro t k ht
    have : t = q := by omega
    subst this
    rw [sX10_move_119, if_neg (nI_nlt (by omega) (by omega))]
    have e := m_move_156 (J := J) (B := B) ho h2 (va_cpy (B 10) (B 11) (40 * s + i) 0 t) t 0 (999 - t) (by omega)
    rw [show 999 - t + t + 1 = 1000 by omega, cpy_0] at e
    rw [show upB (upB B 11 (va_cpy (B 10) (B 11) (40 * s + i) 0 t)) 10 (B 10) = upB B 11 (va_cpy (B 10) (B 11) (40 * s + i) 0 t) from by
      have := upB_id (upB B 11 (va_cpy (B 10) (B 11) (40 * s + i) 0 t)) 10
      exact this] at e
    exact e
  | succ m ih =>
    intro t k ht
    rw [show k + (m + 1) + 1 = (k + m + 1) + 1 by omega, sX10_move_119, if_pos (nI_lt (by omega) (by omega)), m_R20, Option.bind_some, m_R19, Option.bind_some, e40i, m_A10 _ _ (by omega), Option.bind_some, m_S11 _ _ _ (by omega), Option.bind_some, upB_up2, nI_1]
    have e : upB B 11 (va_cpy (B 10) (B 11) (40 * s + i) 0 t) 10 (40 * s + i + t) = B 10 (40 * s + i + t) := rfl
    have e2 := cpy_step (B 10) (B 11) (40 * s + i) 0 t
    rw [Nat.zero_add] at e2
    rw [e, e2]
    exact ih (t + 1) k (by omega)
theorem RR.shmove (h : RR n I A J B) {s o i j q : Nat} (F : Nat → Int32) (hs : s < 4) (ho : o < 4) (h1 : i + q ≤ 40) (h2 : j + q ≤ 40) (hF : ∀ x, x < q → F x = B 10 (40 * s + i + x)) : RR n I (upB A (4 + 2 * o) (va_cpy (A (4 + 2 * s)) (A (4 + 2 * o)) i j q)) J (upB (upB B 11 F) 10 (va_cpy F (B 10) 0 (40 * o + j) q)) := by
  obtain ⟨r1, r2, r3, r4, r5, r6⟩ := h
  have aA : ∀ k, k ≠ 4 → k ≠ 6 → k ≠ 8 → k ≠ 10 → upB A (4 + 2 * o) (va_cpy (A (4 + 2 * s)) (A (4 + 2 * o)) i j q) k = A k := fun k a b c d => upB_ne (by omega)
  refine ⟨?_, ?_, fun t ht => ?_, ?_, ?_, ?_⟩
  · rw [aA 19 (by decide) (by decide) (by decide) (by decide), aA 21 (by decide) (by decide) (by decide) (by decide), aA 31 (by decide) (by decide) (by decide) (by decide), aA 34 (by decide) (by decide) (by decide) (by decide)]
    exact r1
  · rw [aA 1 (by decide) (by decide) (by decide) (by decide)]; exact r2
  · obtain ⟨g1, g2, g3, g4, g5⟩ := r3 t ht
    obtain ⟨-, -, f3, -, -⟩ := r3 s hs
    refine ⟨g1, g2, fun x hx => ?_, g4, g5⟩
    rw [upB_at]
    show _ = (if 40 * o + j ≤ 40 * t + x ∧ 40 * t + x < 40 * o + j + q then F (0 + (40 * t + x - (40 * o + j))) else B 10 (40 * t + x))
    by_cases e : t = o
    · subst e
      rw [upB_at, va_cpy]
      by_cases e2 : j ≤ x ∧ x < j + q
      · rw [if_pos e2, if_pos (by omega), hF _ (by omega), f3 _ (by omega)]
        exact congrArg (B 10) (by omega)
      · rw [if_neg e2, if_neg (by omega)]; exact g3 x hx
    · rw [upB_ne (by omega), if_neg (by omega)]; exact g3 x hx
  · rw [aA 12 (by decide) (by decide) (by decide) (by decide), aA 13 (by decide) (by decide) (by decide) (by decide)]; exact r4
  · rw [aA 64 (by decide) (by decide) (by decide) (by decide)]; exact r5
  · obtain ⟨k1, k2⟩ := r6
    refine ⟨k1, ?_⟩
    rw [aA 38 (by decide) (by decide) (by decide) (by decide), aA 40 (by decide) (by decide) (by decide) (by decide), aA 50 (by decide) (by decide) (by decide) (by decide), aA 53 (by decide) (by decide) (by decide) (by decide)]
    exact k2
theorem op_move (h : RR n I A J B) (s i o j q : Int32) : OK n (sX9_move 0 s i o j q (cW I A tp)) (sX10_move 0 s i o j q (mW J B)) := by
  by_cases hs : inR s 0 3
  · have hs2 := hs
    obtain ⟨t, -, ht, rfl⟩ := hs
    have ht4 : t < 4 := by omega
    obtain ⟨g1, g2, g3, g4, z, hz, gz⟩ := h.2.2.1 t ht4
    by_cases ho : inR o 0 3
    · have ho2 := ho
      obtain ⟨u, -, hu, rfl⟩ := ho
      have hu4 : u < 4 := by omega
      obtain ⟨f1, f2, f3, f4, y, hy, fy⟩ := h.2.2.1 u hu4
      have gI := g2.trans gz
      have fI := f2.trans fy
      have ec : sX9_move 0 (nI t) i (nI u) j q (cW I A tp) = ab_b2 (some (if B 8 t = 0 then 1 else 0, cW I A tp)) fun v9 w10 => if v9 = 0 then ab_b2 (sX5_isMissing (3 + 2 * u) w10) fun v11 w12 => if v11 = 0 then (ab_getI w12 5 (3 + 2 * t) 1).bind fun v13 => (ab_getI w12 5 (3 + 2 * u) 1).bind fun v14 => if v13 = v14 then ab_b2 (sX5_holds (3 + 2 * t) i q w12) fun v15 w16 => if v15 = 0 then sX9_move_104 0 w16 else ab_b2 (sX5_holds (3 + 2 * u) j q w16) fun v17 w18 => if v17 = 0 then sX9_move_104 0 w18 else (ab_getR w18 5 (3 + 2 * t) 0).bind fun v19 => (ab_getR w18 5 (3 + 2 * u) 0).bind fun v20 => (ab_cpy w18 v19 i v20 j q).bind fun w21 => some (q, w21) else ab_b2 (sX9_fail 0 5 w12) fun v22 w23 => some (v22, w23) else sX9_move_56 0 w12 else sX9_move_56 0 w10 := by
        rw [sX9_move, if_pos (c_is0 I A tp), cT_0_3 hs2, ab_b2_some, if_neg (by decide), cT_0_3 ho2, ab_b2_some, if_neg (by decide), c_R0_1, Option.bind_some, c_Q2 I A tp ht4, Option.bind_some, Option.bind_some, c_Q2 I A tp hu4, Option.bind_some, c_miss ht4, g1]
      rw [sX10_move, if_pos (m_is J B), m_sheetT hs2, ab_b2_some, if_neg (by decide), m_sheetT ho2, ab_b2_some, if_neg (by decide), m_R17, Option.bind_some, m_A8 J B ht4, Option.bind_some, ec, ab_b2_some]
      by_cases hb : B 8 t = 0
      · rw [if_pos hb, if_pos hb, if_neg (by decide)]
        exact ok_err (tp := tp) (-1000000002) 2 (by decide) h rfl rfl
      · rw [if_neg hb, if_neg hb, if_pos rfl, Option.bind_some, m_A8 J B hu4, Option.bind_some, c_miss hu4, f1, ab_b2_some]
        by_cases hb2 : B 8 u = 0
        · rw [if_pos hb2, if_pos hb2, if_neg (by decide)]
          exact ok_err (tp := tp) (-1000000002) 2 (by decide) h rfl rfl
        · rw [if_neg hb2, if_neg hb2, if_pos rfl, Option.bind_some, m_A8 J B ht4, Option.bind_some, Option.bind_some, m_A8 J B hu4, Option.bind_some, c_h1 I A tp ht4, Option.bind_some, c_h1 I A tp hu4, Option.bind_some, g1, f1]
          by_cases he : B 8 t = B 8 u
          · rw [if_pos he, if_pos he]
            by_cases a1 : hld i q z
            · obtain ⟨i', q', rfl, rfl, a3⟩ := a1
              rw [c_holdsT ht4 hz gI a3, ab_b2_some, if_neg (by decide), if_neg (nI_pos (by omega)), if_neg (nI_pos (by omega))]
              by_cases a2 : hld j (nI q') y
              · obtain ⟨j', q'', rfl, e, a4⟩ := a2
                by_cases hq : q'' < 2 ^ 31
                · have e := (nI_eq (by omega) hq).mp e
                  subst e
                  rw [c_holdsT hu4 hy fI a4, ab_b2_some, if_neg (by decide), if_neg (nI_pos (by omega)), c_hR I A tp ht4, Option.bind_some, c_hR I A tp hu4, Option.bind_some, c_cpyS I A tp ht4 hu4 (by omega) (by omega), Option.bind_some, m_R18, Option.bind_some, m_A9 J B ht4, Option.bind_some, gz, if_neg (fun e => by have := (sub_lt hz (by omega) (by omega)).mp e; omega), Option.bind_some, m_A9 J B hu4, Option.bind_some, fy, if_neg (fun e => by have := (sub_lt hy (by omega) (by omega)).mp e; omega)]
                  have e := m_move_119 (J := J) (B := B) (s := t) (i := i') (o := u) (j := j') (q := q') ht4 hu4 (by omega) (by omega) q' 0 (999 - q') (by omega)
                  rw [show 999 - q' + q' + 1 = 1000 by omega, cpy_0, upB_id] at e
                  refine ⟨nI q', I, _, tp, J, _, rfl, e, (h.shmove _ ht4 hu4 (by omega) (by omega) (fun x hx => ?_)).mono⟩
                  rw [va_cpy, if_pos (by omega)]
                  exact congrArg (B 10) (by omega)
                · omega
              · rw [c_holdsF hu4 hy fI a2, ab_b2_some, if_pos rfl]
                by_cases c1 : j < 0
                · rw [if_pos c1]
                  exact ok_err (tp := tp) (-1000000001) 1 (by decide) h rfl rfl
                · rw [if_neg c1, m_R18, Option.bind_some, m_A9 J B ht4, Option.bind_some, gz, if_neg (fun e => by have := (sub_lt hz (by omega) (by omega)).mp e; omega), Option.bind_some, m_A9 J B hu4, Option.bind_some, fy]
                  obtain ⟨j', hj', rfl⟩ := nI_of c1
                  rw [if_pos ((sub_lt hy (by omega) hj').mpr (by
                    rcases Nat.lt_or_ge y (q' + j') with h4 | h4
                    · exact h4
                    · exact absurd ⟨j', q', rfl, rfl, by omega⟩ a2))]
                  exact ok_err (tp := tp) (-1000000001) 1 (by decide) h rfl rfl
            · rw [c_holdsF ht4 hz gI a1, ab_b2_some, if_pos rfl]
              by_cases c0 : q < 0
              · rw [if_pos c0]
                exact ok_err (tp := tp) (-1000000001) 1 (by decide) h rfl rfl
              · rw [if_neg c0]
                by_cases c1 : i < 0
                · rw [if_pos c1]
                  exact ok_err (tp := tp) (-1000000001) 1 (by decide) h rfl rfl
                · rw [if_neg c1]
                  by_cases c2 : j < 0
                  · rw [if_pos c2]
                    exact ok_err (tp := tp) (-1000000001) 1 (by decide) h rfl rfl
                  · rw [if_neg c2, m_R18, Option.bind_some, m_A9 J B ht4, Option.bind_some, gz]
                    obtain ⟨i', hi', rfl⟩ := nI_of c1
                    obtain ⟨q', hq', rfl⟩ := nI_of c0
                    rw [if_pos ((sub_lt hz hq' hi').mpr (by
                      rcases Nat.lt_or_ge z (q' + i') with h4 | h4
                      · exact h4
                      · exact absurd ⟨i', q', rfl, rfl, by omega⟩ a1))]
                    exact ok_err (tp := tp) (-1000000001) 1 (by decide) h rfl rfl
          · rw [if_neg he, if_neg he]
            exact ok_err (tp := tp) (-1000000005) 5 (by decide) h rfl rfl
    · refine ok_err (tp := tp) (-1000000001) 1 (by decide) h ?_ ?_
      · rw [sX9_move, if_pos (c_is0 I A tp), cT_0_3 hs2, ab_b2_some, if_neg (by decide), cF_0_3 ho]
        rfl
      · rw [sX10_move, if_pos (m_is J B), m_sheetT hs2, ab_b2_some, if_neg (by decide), m_sheetF ho]
        rfl
  · refine ok_err (tp := tp) (-1000000001) 1 (by decide) h ?_ ?_
    · rw [sX9_move, if_pos (c_is0 I A tp), cF_0_3 hs]
      rfl
    · rw [sX10_move, if_pos (m_is J B), m_sheetF hs]
      rfl
end OP
