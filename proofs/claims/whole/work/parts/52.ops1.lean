/-! ===== errors ===== -/
theorem m_err1 (J : Nat → Int32) (B : Nat → Nat → Int32) : sX10_errs 0 (-1000000001) (mW J B) = some (-1000000001, mW J (up2 B 5 1 (B 5 1 + 1))) := rfl
theorem m_err2 (J : Nat → Int32) (B : Nat → Nat → Int32) : sX10_errs 0 (-1000000002) (mW J B) = some (-1000000002, mW J (up2 B 5 2 (B 5 2 + 1))) := rfl
theorem m_err3 (J : Nat → Int32) (B : Nat → Nat → Int32) : sX10_errs 0 (-1000000003) (mW J B) = some (-1000000003, mW J (up2 B 5 3 (B 5 3 + 1))) := rfl
theorem m_err4 (J : Nat → Int32) (B : Nat → Nat → Int32) : sX10_errs 0 (-1000000004) (mW J B) = some (-1000000004, mW J (up2 B 5 4 (B 5 4 + 1))) := rfl
theorem m_err5 (J : Nat → Int32) (B : Nat → Nat → Int32) : sX10_errs 0 (-1000000005) (mW J B) = some (-1000000005, mW J (up2 B 5 5 (B 5 5 + 1))) := rfl
theorem c_err1 (I : Nat → Int32) (A : Nat → Nat → Int32) (tp : Nat) : sX9_fail 0 1 (cW I A tp) = some (-1000000001, cW I (up2 A 1 1 (A 1 1 + 1)) tp) := rfl
theorem c_err2 (I : Nat → Int32) (A : Nat → Nat → Int32) (tp : Nat) : sX9_fail 0 2 (cW I A tp) = some (-1000000002, cW I (up2 A 1 2 (A 1 2 + 1)) tp) := rfl
theorem c_err3 (I : Nat → Int32) (A : Nat → Nat → Int32) (tp : Nat) : sX9_fail 0 3 (cW I A tp) = some (-1000000003, cW I (up2 A 1 3 (A 1 3 + 1)) tp) := rfl
theorem c_err4 (I : Nat → Int32) (A : Nat → Nat → Int32) (tp : Nat) : sX9_fail 0 4 (cW I A tp) = some (-1000000004, cW I (up2 A 1 4 (A 1 4 + 1)) tp) := rfl
theorem c_err5 (I : Nat → Int32) (A : Nat → Nat → Int32) (tp : Nat) : sX9_fail 0 5 (cW I A tp) = some (-1000000005, cW I (up2 A 1 5 (A 1 5 + 1)) tp) := rfl
theorem ab_b2_some {α : Type} (r : Int32) (w : ab_W) (f : Int32 → ab_W → Option α) : ab_b2 (some (r, w)) f = f r w := rfl
theorem ok_err {n : Nat} {I J : Nat → Int32} {A B : Nat → Nat → Int32} {tp : Nat} {S1 S2 : Option (Int32 × ab_W)} (e : Int32) (k : Nat) (hk : 1 ≤ k ∧ k ≤ 5) (h : RR n I A J B) (h1 : S1 = some (e, cW I (up2 A 1 k (A 1 k + 1)) tp)) (h2 : S2 = some (e, mW J (up2 B 5 k (B 5 k + 1)))) : OK n S1 S2 :=
  ⟨e, _, _, _, _, _, h1, h2, by rw [← h.2.1 k hk.1 hk.2]; exact (h.err k _).mono⟩
theorem ok_same {n : Nat} {I I' J J' : Nat → Int32} {A A' B B' : Nat → Nat → Int32} {tp : Nat} {S1 S2 : Option (Int32 × ab_W)} (r : Int32) (h : RR n I A J B) (h1 : S1 = some (r, cW I' A' tp)) (h2 : S2 = some (r, mW J' B')) (hc : cE I A I' A') (hm : mE J B J' B') : OK n S1 S2 :=
  ⟨r, _, _, _, _, _, h1, h2, (h.congr hc hm).mono⟩
/-- the number of one of c papers -/
def isP (k : Int32) (c : Nat) : Prop := ∃ j, j < c ∧ k = nI j
section OP
variable {n : Nat} {I J : Nat → Int32} {A B : Nat → Nat → Int32} {tp : Nat}
theorem c_has_T {j c : Nat} (hc : I 2 = nI c) (hj : j < c) (h8 : c ≤ 8) : sX0_has 17 (nI j) (cW I A tp) = some (1, cW I A tp) := by
  rw [sX0_has, if_pos (c_is17 I A tp), if_neg (nI_pos (by omega)), c_I17_4, Option.bind_some, hc, if_pos (nI_lt hj (by omega))]
  rfl
theorem c_has_F {k : Int32} {c : Nat} (hc : I 2 = nI c) (h8 : c ≤ 8) (hp : ¬ isP k c) : sX0_has 17 k (cW I A tp) = some (0, cW I A tp) := by
  rw [sX0_has, if_pos (c_is17 I A tp)]
  by_cases h0 : k < 0
  · rw [if_pos h0]; rfl
  · rw [if_neg h0, c_I17_4, Option.bind_some, hc]
    obtain ⟨j, hj, rfl⟩ := nI_of h0
    rw [if_neg (fun h => hp ⟨j, (nI_ltI hj (by omega)).mp h, rfl⟩)]
    rfl
theorem m_isP_T {j c : Nat} (hc : B 1 2 = nI c) (hj : j < c) (h8 : c ≤ 8) : sX10_isPaper 0 (nI j) (mW J B) = some (1, mW J B) := by
  rw [sX10_isPaper, if_pos (m_is J B), m_R0, Option.bind_some, show ab_ald (mW J B) 1 2 = some (B 1 2) from rfl, Option.bind_some, hc, show nI c - 1 = nI (c - 1) from by rw [← pk_sub (show 1 ≤ c by omega)]; rfl]
  rw [show sX10_in (nI j) 0 (nI (c - 1)) (mW J B) = some (1, mW J B) from m_in_T (lo := 0) _ (by omega) (by omega) ⟨j, by omega, by omega, rfl⟩]
  rfl
theorem m_isP_F {k : Int32} {c : Nat} (hc : B 1 2 = nI c) (h8 : c ≤ 8) (hp : ¬ isP k c) : sX10_isPaper 0 k (mW J B) = some (0, mW J B) := by
  rw [sX10_isPaper, if_pos (m_is J B), m_R0, Option.bind_some, show ab_ald (mW J B) 1 2 = some (B 1 2) from rfl, Option.bind_some, hc]
  rcases Nat.eq_zero_or_pos c with rfl | hpos
  · have e : sX10_in k 0 (nI 0 - 1) (mW J B) = some (0, mW J B) := by
      rw [sX10_in]
      by_cases h0 : k < 0
      · rw [if_pos h0]; rfl
      · rw [if_neg h0]
        obtain ⟨j, hj, rfl⟩ := nI_of h0
        rw [if_pos (by rw [Int32.lt_iff_toInt_lt, nI_toInt hj, show (nI 0 - 1 : Int32).toInt = -1 from rfl]; omega)]
        rfl
    rw [e]
    rfl
  · rw [show nI c - 1 = nI (c - 1) from by rw [← pk_sub (show 1 ≤ c by omega)]; rfl]
    rw [show sX10_in k 0 (nI (c - 1)) (mW J B) = some (0, mW J B) from m_in_F (lo := 0) _ (by omega) (by omega) (fun ⟨j, _, h2, h3⟩ => hp ⟨j, by omega, h3⟩)]
    rfl
theorem m_its {k q : Nat} (hk : k < 8) (hq : q < 6) : sX10_its 0 (nI k) (nI q) (mW J B) = some (B 1 (8 + 6 * k + q), mW J B) := by
  rw [sX10_its, if_pos (m_is J B), m_R0, Option.bind_some, show (8 + 6 * nI k + nI q : Int32) = nI (8 + 6 * k + q) from by rw [← nI_add, ← nI_add, ← pk_mul]; rfl, m_A1 J B (by omega)]
  rfl
theorem m_gets {k q : Nat} (hk : k < 8) (hq : q < 6) (v : Int32) : sX10_gets 0 (nI k) (nI q) v (mW J B) = some (mW J (up2 B 1 (8 + 6 * k + q) v)) := by
  rw [sX10_gets, if_pos (m_is J B), m_R0, Option.bind_some, show (8 + 6 * nI k + nI q : Int32) = nI (8 + 6 * k + q) from by rw [← nI_add, ← nI_add, ← pk_mul]; rfl, m_S1 J B v (by omega)]
  rfl
theorem m_becomes {i : Nat} (hi : i < 226) (v : Int32) : sX10_becomes 0 (nI i) v (mW J B) = some (B 1 i, mW J (up2 B 1 i v)) := by
  rw [sX10_becomes, if_pos (m_is J B), m_R0, Option.bind_some, m_A1 J B hi, Option.bind_some, Option.bind_some, m_S1 J B v hi]
  rfl
theorem RR.many (h : RR n I A J B) : ∃ c, c ≤ 8 ∧ B 1 2 = nI c ∧ I 2 = nI c := h.val (i := 2) (by unfold okI; omega) (by decide)
theorem op_wind (h : RR n I A J B) (v : Int32) : OK n (sX9_wind 0 v (cW I A tp)) (sX10_wind 0 v (mW J B)) := by
  by_cases hv : inR v 0 9
  · refine ⟨I 7, upd I 7 v, A, tp, J, up2 B 1 7 v, ?_, ?_, ?_⟩
    · rw [sX9_wind, if_pos (c_is0 I A tp), show sX9_within v 0 9 (cW I A tp) = some (1, cW I A tp) from c_in_T (lo := 0) (hi := 9) _ (by decide) (by decide) hv]
      rfl
    · rw [sX10_wind, if_pos (m_is J B), show sX10_in v 0 9 (mW J B) = some (1, mW J B) from m_in_T (lo := 0) (hi := 9) _ (by decide) (by decide) hv, h.at (i := 7) (by unfold okI; omega)]
      rfl
    · obtain ⟨k, -, hk, rfl⟩ := hv
      exact (h.desk (i := 7) (by unfold okI; omega) (Or.inr (inN_nI hk))).mono
  · refine ok_err (tp := tp) (-1000000001) 1 (by decide) h ?_ ?_
    · rw [sX9_wind, if_pos (c_is0 I A tp), show sX9_within v 0 9 (cW I A tp) = some (0, cW I A tp) from c_in_F (lo := 0) (hi := 9) _ (by decide) (by decide) hv]
      rfl
    · rw [sX10_wind, if_pos (m_is J B), show sX10_in v 0 9 (mW J B) = some (0, mW J B) from m_in_F (lo := 0) (hi := 9) _ (by decide) (by decide) hv]
      rfl
theorem op_seed (h : RR n I A J B) (v : Int32) : OK n (sX9_seed 0 v (cW I A tp)) (sX10_seed 0 v (mW J B)) := by
  refine ⟨I 1, upd I 1 v, A, tp, J, up2 B 1 1 v, rfl, ?_, (h.desk (i := 1) (by unfold okI; omega) (Or.inl rfl)).mono⟩
  rw [h.at (i := 1) (by unfold okI; omega)]
  rfl
theorem op_told (h : RR n I A J B) (v : Int32) : OK n (sX9_told 0 v (cW I A tp)) (sX10_told 0 v (mW J B)) := by
  by_cases hv : inR v 1 5
  · have hv2 := hv
    obtain ⟨k, k1, k2, rfl⟩ := hv
    refine ok_same (tp := tp) (A 1 k) h ?_ ?_ (cE.refl I A) (mE.refl J B)
    · rw [sX9_told, if_pos (c_is0 I A tp), show sX9_within (nI k) 1 5 (cW I A tp) = some (1, cW I A tp) from c_in_T (lo := 1) (hi := 5) _ (by decide) (by decide) hv2]
      show (ab_ald (cW I A tp) 1 (nI k)).bind _ = _
      rw [c_A1 I A tp (by omega)]
      rfl
    · rw [sX10_told, if_pos (m_is J B), show sX10_in (nI k) 1 5 (mW J B) = some (1, mW J B) from m_in_T (lo := 1) (hi := 5) _ (by decide) (by decide) hv2]
      show (ab_ald (mW J B) 5 (nI k)).bind _ = _
      rw [m_A5 J B (by omega), h.2.1 k k1 k2]
      rfl
  · refine ok_err (tp := tp) (-1000000001) 1 (by decide) h ?_ ?_
    · rw [sX9_told, if_pos (c_is0 I A tp), show sX9_within v 1 5 (cW I A tp) = some (0, cW I A tp) from c_in_F (lo := 1) (hi := 5) _ (by decide) (by decide) hv]
      rfl
    · rw [sX10_told, if_pos (m_is J B), show sX10_in v 1 5 (mW J B) = some (0, mW J B) from m_in_F (lo := 1) (hi := 5) _ (by decide) (by decide) hv]
      rfl
theorem okP {j q : Nat} (hj : j < 8) (hq : q < 6) : okI (8 + 6 * j + q) := by unfold okI; omega
theorem bndP {j : Nat} (hj : j < 8) : bnd (8 + 6 * j) = 6 ∧ bnd (8 + 6 * j + 1) = 9 ∧ bnd (8 + 6 * j + 2) = 9999 ∧ bnd (8 + 6 * j + 3) = 127 ∧ bnd (8 + 6 * j + 4) = 1 ∧ bnd (8 + 6 * j + 5) = 999 := by
  rcases (show j = 0 ∨ j = 1 ∨ j = 2 ∨ j = 3 ∨ j = 4 ∨ j = 5 ∨ j = 6 ∨ j = 7 by omega) with rfl | rfl | rfl | rfl | rfl | rfl | rfl | rfl <;> decide
theorem div10 {q : Nat} (h : q ≤ 69) : ab_div (nI q) 10 = some (nI (q / 10)) := by
  rw [ab_div, if_neg (by decide), show (10 : Int32) = nI 10 from rfl, pk_div (by omega) (by omega) (by omega)]
theorem rem10 {q : Nat} (h : q ≤ 69) : ab_rem (nI q) 10 = some (nI (q % 10)) := by
  rw [ab_rem, if_neg (by decide), show (10 : Int32) = nI 10 from rfl, pk_rem (by omega) (by omega) (by omega)]
theorem upd_comm {f : Nat → Int32} {a b : Nat} {x y : Int32} (h : a ≠ b) : upd (upd f a x) b y = upd (upd f b y) a x := by
  funext i
  by_cases h1 : i = a
  · subst h1; rw [upd_ne h, upd_same, upd_same]
  · by_cases h2 : i = b
    · subst h2; rw [upd_same, upd_ne h1, upd_same]
    · rw [upd_ne h2, upd_ne h1, upd_ne h1, upd_ne h2]
theorem up2_comm {B : Nat → Nat → Int32} {c a b : Nat} {x y : Int32} (h : a ≠ b) : up2 (up2 B c a x) c b y = up2 (up2 B c b y) c a x := by
  funext k
  by_cases hk : k = c
  · subst hk; simp only [up2, if_true]; exact upd_comm h
  · simp [up2, hk]
theorem m_i0 {k : Nat} (hk : k < 8) : sX10_its 0 (nI k) 0 (mW J B) = some (B 1 (8 + 6 * k + 0), mW J B) := m_its hk (q := 0) (by decide)
theorem m_g0 {k : Nat} (hk : k < 8) (v : Int32) : sX10_gets 0 (nI k) 0 v (mW J B) = some (mW J (up2 B 1 (8 + 6 * k + 0) v)) := m_gets hk (q := 0) (by decide) v
theorem m_i1 {k : Nat} (hk : k < 8) : sX10_its 0 (nI k) 1 (mW J B) = some (B 1 (8 + 6 * k + 1), mW J B) := m_its hk (q := 1) (by decide)
theorem m_g1 {k : Nat} (hk : k < 8) (v : Int32) : sX10_gets 0 (nI k) 1 v (mW J B) = some (mW J (up2 B 1 (8 + 6 * k + 1) v)) := m_gets hk (q := 1) (by decide) v
theorem m_i2 {k : Nat} (hk : k < 8) : sX10_its 0 (nI k) 2 (mW J B) = some (B 1 (8 + 6 * k + 2), mW J B) := m_its hk (q := 2) (by decide)
theorem m_g2 {k : Nat} (hk : k < 8) (v : Int32) : sX10_gets 0 (nI k) 2 v (mW J B) = some (mW J (up2 B 1 (8 + 6 * k + 2) v)) := m_gets hk (q := 2) (by decide) v
theorem m_i3 {k : Nat} (hk : k < 8) : sX10_its 0 (nI k) 3 (mW J B) = some (B 1 (8 + 6 * k + 3), mW J B) := m_its hk (q := 3) (by decide)
theorem m_g3 {k : Nat} (hk : k < 8) (v : Int32) : sX10_gets 0 (nI k) 3 v (mW J B) = some (mW J (up2 B 1 (8 + 6 * k + 3) v)) := m_gets hk (q := 3) (by decide) v
theorem m_i4 {k : Nat} (hk : k < 8) : sX10_its 0 (nI k) 4 (mW J B) = some (B 1 (8 + 6 * k + 4), mW J B) := m_its hk (q := 4) (by decide)
theorem m_g4 {k : Nat} (hk : k < 8) (v : Int32) : sX10_gets 0 (nI k) 4 v (mW J B) = some (mW J (up2 B 1 (8 + 6 * k + 4) v)) := m_gets hk (q := 4) (by decide) v
theorem m_i5 {k : Nat} (hk : k < 8) : sX10_its 0 (nI k) 5 (mW J B) = some (B 1 (8 + 6 * k + 5), mW J B) := m_its hk (q := 5) (by decide)
theorem m_g5 {k : Nat} (hk : k < 8) (v : Int32) : sX10_gets 0 (nI k) 5 v (mW J B) = some (mW J (up2 B 1 (8 + 6 * k + 5) v)) := m_gets hk (q := 5) (by decide) v
theorem m_bk {k : Nat} (hk : k < 8) (v : Int32) : sX10_becomes 0 (8 + 6 * nI k) v (mW J B) = some (B 1 (8 + 6 * k), mW J (up2 B 1 (8 + 6 * k) v)) := by
  rw [show (8 + 6 * nI k : Int32) = nI (8 + 6 * k) from by rw [← nI_add, ← pk_mul]; rfl]
  exact m_becomes (by omega) v
theorem m_bk2 {k : Nat} (hk : k < 8) (q : Nat) (hq : q < 6) (v : Int32) : sX10_becomes 0 (8 + 6 * nI k + nI q) v (mW J B) = some (B 1 (8 + 6 * k + q), mW J (up2 B 1 (8 + 6 * k + q) v)) := by
  rw [show (8 + 6 * nI k + nI q : Int32) = nI (8 + 6 * k + q) from by rw [← nI_add, ← nI_add, ← pk_mul]; rfl]
  exact m_becomes (by omega) v
theorem nI_eq0 {k : Nat} (h : k < 2 ^ 31) : (nI k = 0) = (k = 0) := propext (nI_eq (b := 0) h (by decide))
theorem bEq {j : Nat} (hj : j < 8) (q : Nat) (hq : q < 6) : bnd (8 + 6 * j + q) = [6, 9, 9999, 127, 1, 999].getD q 0 := by
  obtain ⟨h0, h1, h2, h3, h4, h5⟩ := bndP hj
  rcases (show q = 0 ∨ q = 1 ∨ q = 2 ∨ q = 3 ∨ q = 4 ∨ q = 5 by omega) with rfl | rfl | rfl | rfl | rfl | rfl
  · exact h0
  · exact h1
  · exact h2
  · exact h3
  · exact h4
  · exact h5
/-- a number of a paper is written -/
theorem RR.pw (h : RR n I A J B) {j q k : Nat} (hj : j < 8) (hq : q < 6) (hk : k ≤ [6, 9, 9999, 127, 1, 999].getD q 0) : RR n (upd I (8 + 6 * j + q) (nI k)) A J (up2 B 1 (8 + 6 * j + q) (nI k)) :=
  h.desk (okP hj hq) (Or.inr (inN_nI (by rw [bEq hj q hq]; exact hk)))
theorem RR.pv (h : RR n I A J B) {j q : Nat} (hj : j < 8) (hq : q < 6) : ∃ k, k ≤ [6, 9, 9999, 127, 1, 999].getD q 0 ∧ B 1 (8 + 6 * j + q) = nI k ∧ I (8 + 6 * j + q) = nI k := by
  obtain ⟨k, k1, k2, k3⟩ := h.val (okP hj hq) (by omega)
  rw [bEq hj q hq] at k1
  exact ⟨k, k1, k2, k3⟩
theorem op_become (h : RR n I A J B) (k v : Int32) : OK n (sX9_become 0 k v (cW I A tp)) (sX10_become 0 k v (mW J B)) := by
  obtain ⟨c, hc8, hcB, hcI⟩ := h.many
  by_cases hp : isP k c
  · obtain ⟨j, hj, rfl⟩ := hp
    by_cases hv : inR v 0 69
    · have hv2 := hv
      obtain ⟨q, -, q2, rfl⟩ := hv
      refine ⟨I (8 + 6 * j + 0), upd (upd I (8 + 6 * j + 0) (nI (q / 10))) (8 + 6 * j + 1) (nI (q % 10)), A, tp, J, up2 (up2 B 1 (8 + 6 * j + 0) (nI (q / 10))) 1 (8 + 6 * j + 1) (nI (q % 10)), ?_, ?_, ?_⟩
      · rw [sX9_become, if_pos (c_is0 I A tp)]
        simp (disch := omega) only [c_is0, c_R0_0, c_R0_1, c_R0_2, c_R0_3, c_R0_4, c_R0_5, c_R0_6, c_R0_7, c_I0_8, c_P0_8, c_A1, c_S1, c_Q2, c_is3, c_R3_0, c_I3_1, c_P3_1, c_I3_2, c_P3_2, c_A4, c_S4, c_is5, c_R5_0, c_I5_1, c_P5_1, c_I5_2, c_P5_2, c_A6, c_S6, c_is7, c_R7_0, c_I7_1, c_P7_1, c_I7_2, c_P7_2, c_A8, c_S8, c_is9, c_R9_0, c_I9_1, c_P9_1, c_I9_2, c_P9_2, c_A10, c_S10, c_is11, c_R11_0, c_R11_1, c_R11_2, c_R11_3, c_R11_4, c_A12, c_S12, c_A13, c_S13, c_A14, c_S14, c_A15, c_S15, c_A16, c_S16, c_is17, c_R17_0, c_R17_1, c_R17_2, c_R17_3, c_I17_4, c_P17_4, c_I17_5, c_P17_5, c_I17_6, c_P17_6, c_I17_7, c_P17_7, c_I17_8, c_P17_8, c_I17_9, c_P17_9, c_Q18, c_A19, c_S19, c_Q20, c_A21, c_S21, c_is30, c_R30_0, c_R30_1, c_I30_2, c_P30_2, c_A31, c_S31, c_A32, c_S32, c_is33, c_R33_0, c_R33_1, c_I33_2, c_P33_2, c_A34, c_S34, c_A35, c_S35, c_is36, c_R36_0, c_R36_1, c_R36_2, c_R36_3, c_I36_4, c_P36_4, c_I36_5, c_P36_5, c_I36_6, c_P36_6, c_I36_7, c_P36_7, c_I36_8, c_P36_8, c_I36_9, c_P36_9, c_Q37, c_A38, c_S38, c_Q39, c_A40, c_S40, c_is49, c_R49_0, c_R49_1, c_I49_2, c_P49_2, c_A50, c_S50, c_A51, c_S51, c_is52, c_R52_0, c_R52_1, c_I52_2, c_P52_2, c_A53, c_S53, c_A54, c_S54, c_is55, c_I55_0, c_P55_0, c_I55_1, c_P55_1, c_I55_2, c_P55_2, c_I55_3, c_P55_3, c_R55_4, c_R55_5, c_is56, c_I56_0, c_P56_0, c_I56_1, c_P56_1, c_I56_2, c_P56_2, c_I56_3, c_P56_3, c_I56_4, c_P56_4, c_A57, c_S57, c_is58, c_R58_0, c_I58_1, c_P58_1, c_R58_2, c_I58_3, c_P58_3, c_I58_4, c_P58_4, c_PR58, c_is59, c_R59_0, c_R59_1, c_I59_2, c_P59_2, c_A60, c_S60, c_A61, c_S61, c_is63, c_R63_0, c_I63_1, c_P63_1, c_I63_2, c_P63_2, c_I63_3, c_P63_3, c_I63_4, c_P63_4, c_A64, c_S64, c_pis, c_pI, c_pP, c_pZ, c_kis, c_kI, c_kP, c_kZ, ↓reduceIte, Option.bind_some, ab_b2_some, Option.some.injEq, c_has_T hcI hj hc8, cT_0_69 hv2, div10 q2, rem10 q2]
        rfl
      · rw [sX10_become, if_pos (m_is J B)]
        simp (disch := omega) only [↓reduceIte, Option.bind_some, ab_b2_some, Option.some.injEq, m_isP_T hcB hj hc8, mT_0_69 hv2, div10 q2, rem10 q2, m_g1, m_bk]
        rw [up2_comm (by omega), up2_at, upd_ne (by omega), h.at (okP (j := j) (q := 0) (by omega) (by decide))]
        rfl
      · exact ((h.pw (j := j) (q := 0) (by omega) (by decide) (by simp; omega)).pw (q := 1) (by omega) (by decide) (by simp; omega)).mono
    · refine ok_err (tp := tp) (-1000000001) 1 (by decide) h ?_ ?_
      · rw [sX9_become, if_pos (c_is0 I A tp), c_R0_3, Option.bind_some, c_has_T hcI hj hc8, ab_b2_some, cF_0_69 hv]
        rfl
      · rw [sX10_become, if_pos (m_is J B), m_isP_T hcB hj hc8, ab_b2_some, mF_0_69 hv]
        rfl
  · refine ok_err (tp := tp) (-1000000001) 1 (by decide) h ?_ ?_
    · rw [sX9_become, if_pos (c_is0 I A tp), c_R0_3, Option.bind_some, c_has_F hcI hc8 hp]
      rfl
    · rw [sX10_become, if_pos (m_is J B), m_isP_F hcB hc8 hp]
      rfl
end OP
