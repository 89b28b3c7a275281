section OP
variable {n : Nat} {I J : Nat → Int32} {A B : Nat → Nat → Int32} {tp : Nat}
/-! sheets by number -/
theorem c_his (I : Nat → Int32) (A : Nat → Nat → Int32) (tp : Nat) {s : Nat} (h : s < 4) : ab_is (cW I A tp) 5 (3 + 2 * s) = true := by
  rcases (show s = 0 ∨ s = 1 ∨ s = 2 ∨ s = 3 by omega) with rfl | rfl | rfl | rfl <;> rfl
theorem c_hR (I : Nat → Int32) (A : Nat → Nat → Int32) (tp : Nat) {s : Nat} (h : s < 4) : ab_getR (cW I A tp) 5 (3 + 2 * s) 0 = some (4 + 2 * s) := by
  rcases (show s = 0 ∨ s = 1 ∨ s = 2 ∨ s = 3 by omega) with rfl | rfl | rfl | rfl <;> rfl
theorem c_h1 (I : Nat → Int32) (A : Nat → Nat → Int32) (tp : Nat) {s : Nat} (h : s < 4) : ab_getI (cW I A tp) 5 (3 + 2 * s) 1 = some (I (400 + s)) := by
  rcases (show s = 0 ∨ s = 1 ∨ s = 2 ∨ s = 3 by omega) with rfl | rfl | rfl | rfl <;> rfl
theorem c_h2 (I : Nat → Int32) (A : Nat → Nat → Int32) (tp : Nat) {s : Nat} (h : s < 4) : ab_getI (cW I A tp) 5 (3 + 2 * s) 2 = some (I (404 + s)) := by
  rcases (show s = 0 ∨ s = 1 ∨ s = 2 ∨ s = 3 by omega) with rfl | rfl | rfl | rfl <;> rfl
theorem c_hP1 (I : Nat → Int32) (A : Nat → Nat → Int32) (tp : Nat) {s : Nat} (v : Int32) (h : s < 4) : ab_putI (cW I A tp) 5 (3 + 2 * s) 1 v = some (cW (upd I (400 + s) v) A tp) := by
  rcases (show s = 0 ∨ s = 1 ∨ s = 2 ∨ s = 3 by omega) with rfl | rfl | rfl | rfl <;> rfl
theorem c_hP2 (I : Nat → Int32) (A : Nat → Nat → Int32) (tp : Nat) {s : Nat} (v : Int32) (h : s < 4) : ab_putI (cW I A tp) 5 (3 + 2 * s) 2 v = some (cW (upd I (404 + s) v) A tp) := by
  rcases (show s = 0 ∨ s = 1 ∨ s = 2 ∨ s = 3 by omega) with rfl | rfl | rfl | rfl <;> rfl
theorem c_hA (I : Nat → Int32) (A : Nat → Nat → Int32) (tp : Nat) {s j : Nat} (h : s < 4) (hj : j < 40) : ab_ald (cW I A tp) (4 + 2 * s) (nI j) = some (A (4 + 2 * s) j) := by
  rcases (show s = 0 ∨ s = 1 ∨ s = 2 ∨ s = 3 by omega) with rfl | rfl | rfl | rfl
  · exact c_A4 I A tp hj
  · exact c_A6 I A tp hj
  · exact c_A8 I A tp hj
  · exact c_A10 I A tp hj
theorem c_hS (I : Nat → Int32) (A : Nat → Nat → Int32) (tp : Nat) {s j : Nat} (v : Int32) (h : s < 4) (hj : j < 40) : ab_ast (cW I A tp) (4 + 2 * s) (nI j) v = some (cW I (up2 A (4 + 2 * s) j v) tp) := by
  rcases (show s = 0 ∨ s = 1 ∨ s = 2 ∨ s = 3 by omega) with rfl | rfl | rfl | rfl
  · exact c_S4 I A tp v hj
  · exact c_S6 I A tp v hj
  · exact c_S8 I A tp v hj
  · exact c_S10 I A tp v hj
theorem c_hN (I : Nat → Int32) (A : Nat → Nat → Int32) (tp : Nat) {s : Nat} (h : s < 4) : ab_len (cW I A tp) (4 + 2 * s) = some (nI 40) := by
  rcases (show s = 0 ∨ s = 1 ∨ s = 2 ∨ s = 3 by omega) with rfl | rfl | rfl | rfl <;> rfl
theorem c_miss {s : Nat} (h : s < 4) : sX5_isMissing (3 + 2 * s) (cW I A tp) = some (if I (400 + s) = 0 then 1 else 0, cW I A tp) := by
  rw [sX5_isMissing, if_pos (c_his I A tp h), c_h1 I A tp h, Option.bind_some]
  split <;> rfl
theorem c_low {s : Nat} (v : Int32) (h : s < 4) : sX5_lowestBits (3 + 2 * s) v (cW I A tp) = some (if I (400 + s) = 8 then v.toInt8.toInt32 else if I (400 + s) = 16 then v.toInt16.toInt32 else v, cW I A tp) := by
  rw [sX5_lowestBits, if_pos (c_his I A tp h), c_h1 I A tp h, Option.bind_some, Option.bind_some]
  split
  · rfl
  · split <;> rfl
theorem m_nar (x v : Int32) (w : ab_W) : sX10_narrow x v w = some (if x = 8 then v.toInt8.toInt32 else if x = 16 then v.toInt16.toInt32 else v, w) := by
  rw [sX10_narrow]
  split
  · rfl
  · split <;> rfl
theorem c_fill {s : Nat} (h : s < 4) (f : Nat → Int32) : ∀ (m j k : Nat), j + m = 40 → sJ7_fill_53178_5 (k + m + 1) (4 + 2 * s) 0 (nI j) (nI 40) (cW I (upB A (4 + 2 * s) (zf f j)) tp) = some (cW I (upB A (4 + 2 * s) (zf f 40)) tp) := by
  intro m
  induction m with
  | zero =>
    intro j k hj
    have : j = 40 := by omega
    subst this
    rw [sJ7_fill_53178_5, if_neg (by decide)]
  | succ m ih =>
    intro j k hj
    rw [show k + (m + 1) + 1 = (k + m + 1) + 1 by omega, sJ7_fill_53178_5, if_pos (nI_lt (by omega) (by decide)), c_hS _ _ _ _ h (by omega), Option.bind_some, upB_up2, zf_step, nI_1]
    exact ih (j + 1) k (by omega)
theorem c_begin {s : Nat} (b z : Int32) (h : s < 4) : sX5_begin (3 + 2 * s) b z (cW I A tp) = some (cW (upd (upd I (400 + s) b) (404 + s) z) (upB A (4 + 2 * s) (zf (A (4 + 2 * s)) 40)) tp) := by
  rw [sX5_begin, if_pos (c_his I A tp h), c_hP1 I A tp b h, Option.bind_some, c_hP2 _ A tp z h, Option.bind_some, c_hR _ A tp h, Option.bind_some, sJ7_fill_53178, c_hN _ _ _ h, Option.bind_some]
  have := c_fill (I := upd (upd I (400 + s) b) (404 + s) z) (A := A) (tp := tp) h (A (4 + 2 * s)) 40 0 959 rfl
  rw [zf_0, upB_id] at this
  rw [show (1000 : Nat) = 959 + 40 + 1 from rfl, show (0 : Int32) = nI 0 from rfl]
  rw [show (0 : Int32) = nI 0 from rfl] at this
  rw [this]
  rfl
theorem m_sheetT {v : Int32} (h : inR v 0 3) (w : ab_W) : sX10_isSheet v w = some (1, w) := by rw [sX10_isSheet, mT_0_3 h]; rfl
theorem m_sheetF {v : Int32} (h : ¬ inR v 0 3) (w : ab_W) : sX10_isSheet v w = some (0, w) := by rw [sX10_isSheet, mF_0_3 h]; rfl
def zs (f : Nat → Int32) (s j : Nat) : Nat → Int32 := fun i => if 40 * s ≤ i ∧ i < 40 * s + j then 0 else f i
theorem zs_0 (f : Nat → Int32) (s : Nat) : zs f s 0 = f := by
  funext i
  rw [zs, if_neg (by omega)]
theorem zs_step (f : Nat → Int32) (s j : Nat) : upd (zs f s j) (40 * s + j) 0 = zs f s (j + 1) := by
  funext i
  by_cases h : i = 40 * s + j
  · subst h; rw [upd_same, zs, if_pos (by omega)]
  · rw [upd_ne h, zs, zs]
    by_cases h2 : 40 * s ≤ i ∧ i < 40 * s + j
    · rw [if_pos h2, if_pos (by omega)]
    · rw [if_neg h2, if_neg (by omega)]
theorem e40 (s j : Nat) : (40 * nI s + nI j : Int32) = nI (40 * s + j) := by rw [← nI_add, ← pk_mul]; rfl
theorem m_sheet_93 {s : Nat} (h : s < 4) (f : Nat → Int32) : ∀ (m j k : Nat), j + m = 40 → sX10_sheet_93 (k + m + 1) 0 (nI s) (nI j) (mW J (upB B 10 (zs f s j))) = some (1, mW J (upB B 10 (zs f s 40))) := by
  intro m
  induction m with
  | zero =>
    intro j k hj
    have : j = 40 := by omega
    subst this
    rw [sX10_sheet_93, if_neg (by decide)]
  | succ m ih =>
    intro j k hj
    rw [show k + (m + 1) + 1 = (k + m + 1) + 1 by omega, sX10_sheet_93, if_pos (show nI j < 40 from nI_lt (b := 40) (by omega) (by decide)), m_R19, Option.bind_some, e40, m_S10 _ _ _ (by omega), Option.bind_some, upB_up2, zs_step, nI_1]
    exact ih (j + 1) k (by omega)
theorem m_sheet_68 {s : Nat} (b z : Int32) (h : s < 4) : sX10_sheet_68 0 (nI s) b z (mW J B) = some (1, mW J (upB (up2 (up2 B 8 s b) 9 s (if b = 0 then 0 else z)) 10 (zs (B 10) s 40))) := by
  have key : ∀ y, sX10_sheet_89 0 (nI s) 9 (nI s) y (mW J (up2 B 8 s b)) = some (1, mW J (upB (up2 (up2 B 8 s b) 9 s y) 10 (zs (B 10) s 40))) := fun y => by
    rw [sX10_sheet_89, m_S9 _ _ _ h, Option.bind_some]
    have := m_sheet_93 (J := J) (B := up2 (up2 B 8 s b) 9 s y) h (B 10) 40 0 959 rfl
    rw [zs_0, show upB (up2 (up2 B 8 s b) 9 s y) 10 (B 10) = up2 (up2 B 8 s b) 9 s y from by rw [show B 10 = up2 (up2 B 8 s b) 9 s y 10 from rfl]; exact upB_id _ _] at this
    exact this
  rw [sX10_sheet_68, m_R17, Option.bind_some, m_S8 _ _ _ h, Option.bind_some, m_R18, Option.bind_some, key, key]
  split <;> rfl
theorem RR.shset (h : RR n I A J B) {s : Nat} {b z : Int32} (hs : s < 4) (hb : b = 0 ∨ b = 8 ∨ b = 16 ∨ b = 32) (hz : inN z 40) : RR n (upd (upd I (400 + s) b) (404 + s) z) (upB A (4 + 2 * s) (zf (A (4 + 2 * s)) 40)) J (upB (up2 (up2 B 8 s b) 9 s z) 10 (zs (B 10) s 40)) := by
  obtain ⟨h1, h2, h3, h4, h5, h6⟩ := h
  have aA : ∀ k, k ≠ 4 → k ≠ 6 → k ≠ 8 → k ≠ 10 → upB A (4 + 2 * s) (zf (A (4 + 2 * s)) 40) k = A k := fun k a b c d => upB_ne (by omega)
  refine ⟨?_, ?_, fun t ht => ?_, ?_, ?_, ?_⟩
  · rw [aA 19 (by decide) (by decide) (by decide) (by decide), aA 21 (by decide) (by decide) (by decide) (by decide), aA 31 (by decide) (by decide) (by decide) (by decide), aA 34 (by decide) (by decide) (by decide) (by decide)]
    exact h1.congr (fun i hi => by rw [upd_ne (by omega), upd_ne (by omega)])
  · rw [aA 1 (by decide) (by decide) (by decide) (by decide)]; exact h2
  · obtain ⟨g1, g2, g3, g4, g5⟩ := h3 t ht
    have e8 : upB (up2 (up2 B 8 s b) 9 s z) 10 (zs (B 10) s 40) 8 = upd (B 8) s b := rfl
    have e9 : upB (up2 (up2 B 8 s b) 9 s z) 10 (zs (B 10) s 40) 9 = upd (B 9) s z := rfl
    have e10 : upB (up2 (up2 B 8 s b) 9 s z) 10 (zs (B 10) s 40) 10 = zs (B 10) s 40 := rfl
    rw [e8, e9, e10]
    by_cases e : t = s
    · subst e
      rw [upd_ne (by omega), upd_same, upd_same, upd_same, upd_same, upB_at]
      refine ⟨rfl, rfl, fun j hj => ?_, hb, hz⟩
      rw [zf, if_pos hj, zs, if_pos (by omega)]
    · simp (disch := omega) only [upd_ne, upB_ne]
      refine ⟨g1, g2, fun j hj => ?_, g4, g5⟩
      rw [zs, if_neg (by omega)]
      exact g3 j hj
  · rw [aA 12 (by decide) (by decide) (by decide) (by decide), aA 13 (by decide) (by decide) (by decide) (by decide)]; exact h4
  · rw [aA 64 (by decide) (by decide) (by decide) (by decide), upd_ne (by omega), upd_ne (by omega)]; exact h5
  · obtain ⟨k1, k2⟩ := h6
    refine ⟨by rw [upd_ne (by omega), upd_ne (by omega)]; exact k1, ?_⟩
    rw [aA 38 (by decide) (by decide) (by decide) (by decide), aA 40 (by decide) (by decide) (by decide) (by decide), aA 50 (by decide) (by decide) (by decide) (by decide), aA 53 (by decide) (by decide) (by decide) (by decide)]
    rcases k2 with k2 | ⟨k2, k3, k4⟩
    · exact Or.inl k2
    · exact Or.inr ⟨k2, k3, k4.congr (fun i hi => by rw [upd_ne (by omega), upd_ne (by omega)])⟩
theorem op_sheet (h : RR n I A J B) (s b z : Int32) : OK n (sX9_sheet 0 s b z (cW I A tp)) (sX10_sheet 0 s b z (mW J B)) := by
  by_cases hs : inR s 0 3
  · have hs2 := hs
    obtain ⟨t, -, ht, rfl⟩ := hs
    have ht4 : t < 4 := by omega
    by_cases hb : b = 0 ∨ b = 8 ∨ b = 16 ∨ b = 32
    · have ec : sX9_sheet 0 (nI t) b z (cW I A tp) = sX9_sheet_37 0 (nI t) b z (cW I A tp) := by
        rw [sX9_sheet, if_pos (c_is0 I A tp), cT_0_3 hs2, ab_b2_some, if_neg (by decide)]
        rcases hb with rfl | rfl | rfl | rfl
        · rw [if_pos rfl]
        · rw [if_neg (by decide), if_pos rfl]
        · rw [if_neg (by decide), if_neg (by decide), if_pos rfl]
        · rw [if_neg (by decide), if_neg (by decide), if_neg (by decide), if_pos rfl]
      have em : sX10_sheet 0 (nI t) b z (mW J B) = sX10_sheet_36 0 (nI t) b z (mW J B) := by
        rw [sX10_sheet, if_pos (m_is J B), m_sheetT hs2, ab_b2_some, if_neg (by decide)]
        rcases hb with rfl | rfl | rfl | rfl
        · rw [if_pos rfl]
        · rw [if_neg (by decide), if_pos rfl]
        · rw [if_neg (by decide), if_neg (by decide), if_pos rfl]
        · rw [if_neg (by decide), if_neg (by decide), if_neg (by decide), if_pos rfl]
      rw [ec, em]
      by_cases hb0 : b = 0
      · subst hb0
        refine ⟨1, _, _, tp, J, _, ?_, ?_, (h.shset (b := 0) (z := 0) ht4 hb inN_0).mono⟩
        · rw [sX9_sheet_37, if_pos rfl, sX9_sheet_51, if_pos rfl, sX9_sheet_67, c_R0_1, Option.bind_some, c_Q2 I A tp ht4, Option.bind_some, if_pos rfl, sX9_sheet_83, c_begin _ _ ht4]
          rfl
        · rw [sX10_sheet_36, if_pos rfl, sX10_sheet_51, if_pos rfl, m_sheet_68 _ _ ht4, if_pos rfl]
      · by_cases hz0 : z < 0
        · refine ok_err (tp := tp) (-1000000003) 3 (by decide) h ?_ ?_
          · rw [sX9_sheet_37, if_neg hb0, if_pos hz0]
            rfl
          · rw [sX10_sheet_36, if_neg hb0, if_pos hz0]
            rfl
        · by_cases hz4 : 40 < z
          · refine ok_err (tp := tp) (-1000000001) 1 (by decide) h ?_ ?_
            · rw [sX9_sheet_37, if_neg hb0, if_neg hz0, sX9_sheet_51, if_neg hb0, if_pos hz4]
              rfl
            · rw [sX10_sheet_36, if_neg hb0, if_neg hz0, sX10_sheet_51, if_neg hb0, if_pos hz4]
              rfl
          · have hz : inN z 40 := by
              obtain ⟨k, -, k2, k3⟩ := (inR_iff (lo := 0) (hi := 40) (by decide) (by decide)).mpr ⟨hz0, hz4⟩
              exact ⟨k, k2, k3⟩
            refine ⟨1, _, _, tp, J, _, ?_, ?_, (h.shset (b := b) (z := z) ht4 hb hz).mono⟩
            · rw [sX9_sheet_37, if_neg hb0, if_neg hz0, sX9_sheet_51, if_neg hb0, if_neg hz4, sX9_sheet_67, c_R0_1, Option.bind_some, c_Q2 I A tp ht4, Option.bind_some, if_neg hb0, sX9_sheet_83, c_begin _ _ ht4]
              rfl
            · rw [sX10_sheet_36, if_neg hb0, if_neg hz0, sX10_sheet_51, if_neg hb0, if_neg hz4, m_sheet_68 _ _ ht4, if_neg hb0]
    · simp only [not_or] at hb
      refine ok_err (tp := tp) (-1000000001) 1 (by decide) h ?_ ?_
      · rw [sX9_sheet, if_pos (c_is0 I A tp), cT_0_3 hs2, ab_b2_some, if_neg (by decide), if_neg hb.1, if_neg hb.2.1, if_neg hb.2.2.1, if_neg hb.2.2.2]
        rfl
      · rw [sX10_sheet, if_pos (m_is J B), m_sheetT hs2, ab_b2_some, if_neg (by decide), if_neg hb.1, if_neg hb.2.1, if_neg hb.2.2.1, if_neg hb.2.2.2]
        rfl
  · refine ok_err (tp := tp) (-1000000001) 1 (by decide) h ?_ ?_
    · rw [sX9_sheet, if_pos (c_is0 I A tp), cF_0_3 hs]
      rfl
    · rw [sX10_sheet, if_pos (m_is J B), m_sheetF hs]
      rfl
end OP
