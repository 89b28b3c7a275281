/-! counting bits -/
def popc (a : Nat) : Nat := (a.testBit 0).toNat + (a.testBit 1).toNat + (a.testBit 2).toNat + (a.testBit 3).toNat + (a.testBit 4).toNat + (a.testBit 5).toNat + (a.testBit 6).toNat + (a.testBit 7).toNat + (a.testBit 8).toNat + (a.testBit 9).toNat
def jbc (x : Int32) : Int32 := match sJ6_bitCount_0f7a4 x [] with
  | some p => p.1
  | none => 0
theorem c_bc0 (x : Int32) (w : ab_W) : sJ6_bitCount_0f7a4 x w = some (jbc x, w) := rfl
theorem jbc_eq {a : Nat} (h : a < 1024) : jbc (nI a) = nI (popc a) := by
  have h2 : ∀ a, a < 1024 → jbc (nI a) = nI (popc a) := by decide +kernel
  exact h2 a h
theorem c_bc {a : Nat} (h : a < 1024) (w : ab_W) : sJ6_bitCount_0f7a4 (nI a) w = some (nI (popc a), w) := by rw [c_bc0, jbc_eq h]
theorem popc_step {a : Nat} (h : a < 1024) (h0 : a ≠ 0) : (nI a &&& (nI a - 1)) = nI (a &&& (a - 1)) ∧ a &&& (a - 1) < 1024 ∧ popc a = popc (a &&& (a - 1)) + 1 := by
  refine ⟨by rw [show (1 : Int32) = nI 1 from rfl, pk_sub (by omega), nI_and], Nat.lt_of_le_of_lt Nat.and_le_left h, ?_⟩
  have h2 : ∀ a, a < 1024 → a ≠ 0 → popc a = popc (a &&& (a - 1)) + 1 := by decide +kernel
  exact h2 a h h0
theorem popc_0 {a : Nat} (h : a < 1024) : popc a ≤ 10 ∧ (popc a = 0 → a = 0) := by
  have h2 : ∀ a, a < 1024 → popc a ≤ 10 ∧ (popc a = 0 → a = 0) := by decide +kernel
  exact h2 a h
theorem m_bits_4 (w : ab_W) : ∀ (m a x k : Nat), a < 1024 → popc a = m → sX10_bits_4 (k + m + 1) (nI x) (nI a) w = some (nI (x + m), w) := by
  intro m
  induction m with
  | zero =>
    intro a x k ha hm
    have := (popc_0 ha).2 hm
    subst this
    rw [sX10_bits_4, if_pos (by decide)]
    rfl
  | succ m ih =>
    intro a x k ha hm
    have h0 : a ≠ 0 := fun e => by subst e; rw [show popc 0 = 0 from rfl] at hm; omega
    obtain ⟨e1, e2, e3⟩ := popc_step ha h0
    rw [show k + (m + 1) + 1 = (k + m + 1) + 1 by omega, sX10_bits_4, if_neg (nI_ne0 (by omega) (by omega)), e1, nI_1, ih _ (x + 1) k e2 (by omega), show x + 1 + m = x + (m + 1) by omega]
theorem m_bits {a : Nat} (h : a < 1024) (w : ab_W) : sX10_bits (nI a) w = some (nI (popc a), w) := by
  have e := m_bits_4 w (popc a) a 0 (999 - popc a) h rfl
  have := (popc_0 h).1
  rw [show 999 - popc a + popc a + 1 = 1000 by omega, Nat.zero_add] at e
  rw [sX10_bits]
  exact e
section OP
variable {n : Nat} {I J : Nat → Int32} {A B : Nat → Nat → Int32} {tp : Nat} {g0 g1 : Int32 → Int32 → Int32 → Nat} {r : Nat → Int32}
/-! fits -/
def ffar (g0 : Int32 → Int32 → Int32 → Nat) (r : Nat → Int32) (q v j : Nat) : Nat := fg (decide (rn r (8 + 6 * j + 4) = 1)) (decide (rn r (8 + 6 * j + 0) = 5)) (str g0 (rn r (8 + 6 * j + 0)) (rn r (8 + 6 * j + 3)) (nI v)) (rn r 0) (rn r (8 + 6 * j + 5)) q
def fb (g0 : Int32 → Int32 → Int32 → Nat) (r : Nat → Int32) (q v : Nat) (T : Nat → Int32) : Nat → Bool
  | 0 => true
  | j + 1 => fb g0 r q v T j && decide (nI (ffar g0 r q v j) = T j)
theorem fb_f {q v : Nat} {T : Nat → Int32} {j : Nat} (h : fb g0 r q v T j = false) : ∀ m, fb g0 r q v T (j + m) = false := by
  intro m
  induction m with
  | zero => exact h
  | succ m ih => rw [show j + (m + 1) = (j + m) + 1 by omega, fb, ih]; rfl
theorem c_fit_19 {k6 : Nat → Nat → Nat → Nat → Int32 → Int32 → Int32 → ab_W → Option (Int32 × ab_W)} {q v s : Nat} {x5 : Int32} {T : Nat → Int32} (hr : rowOk r) (hq : q ≤ 60) (hs : s < 4) (hE : ∀ j, j < 8 → EC j I A r g0 g1) (h2 : I 2 = nI (rn r 2)) (hT : ∀ j, j < 8 → A (4 + 2 * s) j = T j) : ∀ (m j k : Nat) (I1 : Nat → Int32) (A1 : Nat → Nat → Int32), j + m = rn r 2 → cK I A I1 A1 → ∃ I' A', sX7_fittingWinds_19 k6 (k + m + 1) 55 17 11 (4 + 2 * s) (nI q) x5 (nI v) (bI (fb g0 r q v T j)) (nI j) (cW I1 A1 tp) = sX7_fittingWinds_72 k6 55 17 11 (4 + 2 * s) (nI q) x5 (nI v) (bI (fb g0 r q v T (rn r 2))) (cW I' A' tp) ∧ cK I A I' A' := by
  have c2 := (rn_c hr).2
  intro m
  induction m with
  | zero =>
    intro j k I1 A1 hj hk
    have : j = rn r 2 := by omega
    subst this
    refine ⟨I1, A1, ?_, hk⟩
    rw [sX7_fittingWinds_19]
    cases fb g0 r q v T (rn r 2)
    · rw [if_pos (by decide)]
    · rw [if_neg (by decide), c_I17_4, Option.bind_some, hk.1 2 (by omega), h2, if_neg (nI_nlt (by omega) (by omega))]
  | succ m ih =>
    intro j k I1 A1 hj hk
    have hj8 : j < 8 := by omega
    rw [show k + (m + 1) + 1 = (k + m + 1) + 1 by omega, sX7_fittingWinds_19]
    cases hfb : fb g0 r q v T j
    · rw [if_pos (by decide)]
      have := fb_f hfb (m + 1)
      rw [hj] at this
      rw [this]
      exact ⟨I1, A1, rfl, hk⟩
    · have Ej := (hE j hj8).cong hj8 (fun i hi => hk.1 i (by omega)) hk.2
      obtain ⟨I2, A2, e, kk⟩ := c_farBehind (tp := tp) (w := nI v) (q := q) Ej hj8 (by omega)
      rw [← ffar] at e
      obtain ⟨I', A', f1, f2⟩ := ih (j + 1) k I2 A2 (by omega) (hk.trans kk)
      refine ⟨I', A', ?_, f2⟩
      rw [if_neg (by decide), c_I17_4, Option.bind_some, hk.1 2 (by omega), h2, if_pos (nI_lt (by omega) (by omega)), c_hN _ _ _ hs, Option.bind_some, if_pos (nI_lt (by omega) (by decide)), c_hA _ _ _ hs (by omega), Option.bind_some, hk.2 _ (by omega) (by omega), hT j hj8, e, ab_b2_some]
      rw [fb, hfb, Bool.true_and] at f1
      by_cases he : T j = nI (ffar g0 r q v j)
      · rw [if_pos he, sX7_fittingWinds_64, nI_1]
        rw [show decide (nI (ffar g0 r q v j) = T j) = true from decide_eq_true he.symm] at f1
        exact f1
      · rw [if_neg he, sX7_fittingWinds_64, nI_1]
        rw [show decide (nI (ffar g0 r q v j) = T j) = false from decide_eq_false (fun h => he h.symm)] at f1
        exact f1
theorem m_fit_10 {q v s : Nat} (hr : rowOk r) (hs : s < 4) {J1 : Nat → Int32} {B1 : Nat → Nat → Int32} (hB : B1 1 = rt g0 g1 (upd r 7 (nI v)) q 0) (hv : v ≤ 9) : ∀ (m j k : Nat), j + m = rn r 2 → sX10_isFarSo_10 (k + m + 1) 0 (nI s) (bI (fb g0 r q v (fun j => B1 10 (40 * s + j)) j)) (nI j) (mW J1 B1) = some (bI (fb g0 r q v (fun j => B1 10 (40 * s + j)) (rn r 2)), mW J1 B1) := by
  obtain ⟨c1, c2⟩ := rn_c hr
  have b2 : B1 1 2 = nI (rn r 2) := by rw [hB, rt_else (by decide) (by omega), upd_ne (by decide)]; exact c1
  intro m
  induction m with
  | zero =>
    intro j k hj
    have : j = rn r 2 := by omega
    subst this
    rw [sX10_isFarSo_10, m_R0, Option.bind_some, m_R2', Option.bind_some, b2, if_neg (nI_nlt (by omega) (by omega))]
    cases fb g0 r q v (fun j => B1 10 (40 * s + j)) (rn r 2) <;> rfl
  | succ m ih =>
    intro j k hj
    have hj8 : j < 8 := by omega
    have e := ih (j + 1) k (by omega)
    rw [show k + (m + 1) + 1 = (k + m + 1) + 1 by omega, sX10_isFarSo_10, m_R0, Option.bind_some, m_R2', Option.bind_some, b2, if_pos (nI_lt (by omega) (by omega))]
    cases hfb : fb g0 r q v (fun j => B1 10 (40 * s + j)) j
    · rw [if_pos (by decide), sX10_isFarSo_51, sX10_isFarSo_52, nI_1]
      rw [show fb g0 r q v (fun j => B1 10 (40 * s + j)) (j + 1) = false from fb_f hfb 1] at e
      exact e
    · rw [if_neg (by decide), m_i5 hj8, ab_b2_some, m_R19, Option.bind_some, e40, m_A10 _ _ (by omega), Option.bind_some]
      have ev : B1 1 (8 + 6 * j + 5) = nI (ffar g0 r q v j) := by
        rw [hB, rt_far (by rw [rn_upd_ne (by decide)]; omega), if_neg (by omega), fT, ffar]
        simp (disch := omega) only [rn_upd_ne, upd_same]
      rw [ev]
      rw [fb, hfb, Bool.true_and] at e
      by_cases he : nI (ffar g0 r q v j) = B1 10 (40 * s + j)
      · rw [if_pos he, sX10_isFarSo_52, nI_1]
        rw [decide_eq_true he] at e
        exact e
      · rw [if_neg he, sX10_isFarSo_51, sX10_isFarSo_52, nI_1]
        rw [decide_eq_false he] at e
        exact e
theorem cm_fits {q s : Nat} {x : Int32} (hM : EM (B 1) g0 g1) (hC : ∀ j, j < 8 → EC j I A (B 1) g0 g1) (h2 : I 2 = nI (rn (B 1) 2)) (hq : q ≤ 60) (hs : s < 4) (hT : ∀ j, j < 8 → A (4 + 2 * s) j = B 10 (40 * s + j)) (hn : B 10 (40 * s + rn (B 1) 2) = nI q) : ∀ (m v k : Nat) (I1 : Nat → Int32) (A1 : Nat → Nat → Int32) (J1 : Nat → Int32) (B1 : Nat → Nat → Int32), v + m = 10 → cK I A I1 A1 → TH J B J1 B1 → ∃ I' A' J' B', sX7_fittingWinds_6 (k + m + 1) 55 17 11 (4 + 2 * s) (nI q) (sv (fun v => fb g0 (B 1) q v (fun j => B 10 (40 * s + j)) (rn (B 1) 2)) v) (nI v) (cW I1 A1 tp) = some (sv (fun v => fb g0 (B 1) q v (fun j => B 10 (40 * s + j)) (rn (B 1) 2)) 10, cW I' A' tp) ∧ sX10_fits_96 (k + m + 1) 0 (nI s) x (nI (rn (B 1) 2)) (sv (fun v => fb g0 (B 1) q v (fun j => B 10 (40 * s + j)) (rn (B 1) 2)) v) (nI v) (mW J1 B1) = sX10_fits_96 (k + 1) 0 (nI s) x (nI (rn (B 1) 2)) (sv (fun v => fb g0 (B 1) q v (fun j => B 10 (40 * s + j)) (rn (B 1) 2)) 10) (nI 10) (mW J' B') ∧ cK I A I' A' ∧ TH J B J' B' := by
  obtain ⟨c1, c2⟩ := rn_c hM.1
  intro m
  induction m with
  | zero =>
    intro v k I1 A1 J1 B1 hv hK hT'
    have : v = 10 := by omega
    subst this
    exact ⟨I1, A1, J1, B1, by rw [sX7_fittingWinds_6, if_pos (by decide)], rfl, hK, hT'⟩
  | succ m ih =>
    intro v k I1 A1 J1 B1 hv hK hT'
    have hC1 : ∀ j, j < 8 → EC j I1 A1 (B 1) g0 g1 := fun j hj => (hC j hj).cong hj (fun i hi => hK.1 i (by omega)) hK.2
    obtain ⟨I2, A2, e2, k2⟩ := c_fit_19 (tp := tp) (k6 := sX7_fittingWinds_6 (k + m + 1)) (q := q) (v := v) (s := s) (x5 := sv (fun v => fb g0 (B 1) q v (fun j => B 10 (40 * s + j)) (rn (B 1) 2)) v) (T := fun j => B 10 (40 * s + j)) hM.1 hq hs hC1 (by rw [hK.1 2 (by omega)]; exact h2) (fun j hj => by rw [hK.2 _ (by omega) (by omega)]; exact hT j hj) (rn (B 1) 2) 0 (999 - rn (B 1) 2) I1 A1 (by omega) (cK.refl _ _)
    rw [show 999 - rn (B 1) 2 + rn (B 1) 2 + 1 = 1000 by omega] at e2
    have hM' : EM (upd (B 1) 7 (nI v)) g0 g1 := hM.upd1 (by unfold okI; omega) (by decide) (by show _ ≤ 9; omega)
    obtain ⟨J3, B3, e3, h3⟩ := m_passes (J := J1) (B := up2 B1 1 7 (nI v)) hM' (q := q) (by omega) (by rw [up2_at, hT'.2.1])
    have b10 : B3 10 = B 10 := by rw [h3.2.2 10 (by decide) (by decide), up2_ne (by decide)]; exact hT'.2.2.2 10 (by decide) (by decide) (by decide)
    have e4 := m_fit_10 (J1 := J3) (B1 := B3) (g0 := g0) (g1 := g1) (r := B 1) (q := q) (v := v) (s := s) hM.1 hs h3.2.1 (by omega) (rn (B 1) 2) 0 (999 - rn (B 1) 2) (by omega)
    rw [show 999 - rn (B 1) 2 + rn (B 1) 2 + 1 = 1000 by omega, b10] at e4
    obtain ⟨B5, e5, t5⟩ := m_thb (J := J) (B := B) hT' h3.1 h3.2.1 (fun k a b => by rw [h3.2.2 k a b, up2_ne a]) (fun i hi => by rw [rt_far226 hM'.1 i hi, upd_ne (by omega)])
    obtain ⟨I', A', J', B', f1, f2, f3, f4⟩ := ih (v + 1) k I2 A2 J3 B5 (by omega) (hK.trans k2) t5
    have n10 : up2 B1 1 7 (nI v) 10 (40 * s + rn (B 1) 2) = nI q := by
      rw [up2_ne (by decide), hT'.2.2.2 10 (by decide) (by decide) (by decide)]; exact hn
    have efs : sX10_isFarSo 0 (nI s) (nI q) (mW J1 (up2 B1 1 7 (nI v))) = some (bI (fb g0 (B 1) q v (fun j => B 10 (40 * s + j)) (rn (B 1) 2)), mW J3 B3) := by
      rw [sX10_isFarSo, if_pos (m_is _ _), e3, Option.bind_some]
      exact e4
    refine ⟨I', A', J', B', ?_, ?_, f3, f4⟩
    · rw [show k + (m + 1) + 1 = (k + m + 1) + 1 by omega, sX7_fittingWinds_6, if_neg (show ¬ (9 : Int32) < nI v from nI_nlt (a := 9) (by omega) (by decide)), show sX7_fittingWinds_19 (sX7_fittingWinds_6 (k + m + 1)) 1000 55 17 11 (4 + 2 * s) (nI q) (sv (fun v => fb g0 (B 1) q v (fun j => B 10 (40 * s + j)) (rn (B 1) 2)) v) (nI v) 1 0 (cW I1 A1 tp) = _ from e2, sX7_fittingWinds_72]
      rw [sv] at f1
      cases hb : fb g0 (B 1) q v (fun j => B 10 (40 * s + j)) (rn (B 1) 2)
      · rw [hb, if_neg (by decide)] at f1
        rw [if_pos (by decide), sX7_fittingWinds_86, nI_1]
        exact f1
      · rw [hb, if_pos rfl] at f1
        rw [if_neg (by decide), sX7_fittingWinds_86, nI_1]
        exact f1
    · rw [show k + (m + 1) + 1 = (k + m + 1) + 1 by omega, sX10_fits_96, if_pos (show nI v < 10 from nI_lt (b := 10) (by omega) (by decide)), m_R0, Option.bind_some, show ∀ B v, ab_ast (mW J1 B) 1 7 v = some (mW J1 (up2 B 1 7 v)) from fun B v => rfl, Option.bind_some, m_R19, Option.bind_some, e40, m_A10 _ _ (by omega), Option.bind_some, n10, efs, ab_b2_some]
      rw [sv] at f2
      cases hb : fb g0 (B 1) q v (fun j => B 10 (40 * s + j)) (rn (B 1) 2)
      · rw [hb, if_neg (by decide)] at f2
        rw [if_pos (by decide), sX10_fits_141, m_R2, Option.bind_some, m_R0, Option.bind_some, e5, Option.bind_some, nI_1, Int32.or_zero]
        exact f2
      · rw [hb, if_pos rfl] at f2
        rw [if_neg (by decide), sX10_fits_141, m_R2, Option.bind_some, m_R0, Option.bind_some, e5, Option.bind_some, nI_1]
        exact f2
theorem op_fits (h : RR n I A J B) (s x : Int32) : OK n (sX9_fits 0 s x (cW I A tp)) (sX10_fits 0 s x (mW J B)) := by
  by_cases hs : inR s 0 3
  · have hs2 := hs
    obtain ⟨t, -, ht, rfl⟩ := hs
    have ht4 : t < 4 := by omega
    by_cases hx : inR x 0 1
    · have hx2 := hx
      obtain ⟨y, -, y1, rfl⟩ := hx
      obtain ⟨p1, p2, p3, p4, z, hz, pz⟩ := h.2.2.1 t ht4
      obtain ⟨g0, g1, hM, hC⟩ := h.laws
      obtain ⟨c1, c2⟩ := rn_c hM.1
      have i2 : I 2 = nI (rn (B 1) 2) := by rw [h.at (i := 2) (by unfold okI; omega)]; exact c1
      have m2 : ab_ald (mW J B) 1 2 = some (nI (rn (B 1) 2)) := by rw [← c1]; rfl
      by_cases hb : B 8 t = 0
      · refine ok_err (tp := tp) (-1000000002) 2 (by decide) h ?_ ?_
        · rw [sX9_fits, if_pos (c_is0 I A tp), cT_0_3 hs2, ab_b2_some, if_neg (by decide), cT_0_1 hx2, ab_b2_some, if_neg (by decide), c_R0_1, Option.bind_some, c_Q2 I A tp ht4, Option.bind_some, c_miss ht4, ab_b2_some, p1, if_pos hb, if_neg (by decide)]
          rfl
        · rw [sX10_fits, if_pos (m_is J B), m_sheetT hs2, ab_b2_some, if_neg (by decide), mT_0_1 hx2, ab_b2_some, if_neg (by decide), m_R0, Option.bind_some, m2, Option.bind_some, m_R17, Option.bind_some, m_A8 J B ht4, Option.bind_some, if_pos hb]
          rfl
      · by_cases hsz : z = rn (B 1) 2 + 1
        · by_cases hq : inR (B 10 (40 * t + rn (B 1) 2)) 0 60
          · have hq2 := hq
            obtain ⟨q, -, q60, eq⟩ := hq
            obtain ⟨B1, e1, t1⟩ := m_th0 (J := J) (B := B)
            obtain ⟨I', A', J', B', f1, f2, f3, f4⟩ := cm_fits (tp := tp) (x := nI y) (q := q) (s := t) hM hC i2 q60 ht4 (fun j hj => p3 j (by omega)) eq 10 0 989 I A J B1 rfl (cK.refl I A) t1
            have hlt := svN_lt (fun v => fb g0 (B 1) q v (fun j => B 10 (40 * t + j)) (rn (B 1) 2)) 10
            have esv := sv_N (fun v => fb g0 (B 1) q v (fun j => B 10 (40 * t + j)) (rn (B 1) 2)) 10 (by decide)
            rw [esv] at f1 f2
            generalize svN (fun v => fb g0 (B 1) q v (fun j => B 10 (40 * t + j)) (rn (B 1) 2)) 10 = sn at hlt f1 f2
            have ec : sX9_fits 0 (nI t) (nI y) (cW I A tp) = if nI y = 0 then some (nI sn, cW I' A' tp) else ab_b2 (sJ6_bitCount_0f7a4 (nI sn) (cW I' A' tp)) fun v28 w29 => some (v28, w29) := by
              rw [sX9_fits, if_pos (c_is0 I A tp), cT_0_3 hs2, ab_b2_some, if_neg (by decide), cT_0_1 hx2, ab_b2_some, if_neg (by decide), c_R0_1, Option.bind_some, c_Q2 I A tp ht4, Option.bind_some, c_miss ht4, ab_b2_some, p1, if_neg hb, if_pos rfl, c_h2 I A tp ht4, Option.bind_some, c_R0_3, Option.bind_some, c_I17_4, Option.bind_some, p2, pz, i2, nI_1, if_pos (by rw [hsz]), c_hR I A tp ht4, Option.bind_some, Option.bind_some, c_I17_4, Option.bind_some, i2, c_hA I A tp ht4 (by omega), Option.bind_some, p3 _ (by omega), cT_0_60 hq2, ab_b2_some, if_neg (by decide), c_R0_5, Option.bind_some, c_R0_3, Option.bind_some, c_R0_2, Option.bind_some, c_hR I A tp ht4, Option.bind_some, Option.bind_some, Option.bind_some, c_I17_4, Option.bind_some, i2, c_hA I A tp ht4 (by omega), Option.bind_some, p3 _ (by omega), eq, sX7_fittingWinds, if_pos (c_is55 I A tp), show sX7_fittingWinds_6 1000 55 17 11 (4 + 2 * t) (nI q) 0 0 (cW I A tp) = _ from f1, ab_b2_some]
            have em : sX10_fits 0 (nI t) (nI y) (mW J B) = if nI y = 0 then some (nI sn, mW J' B') else ab_b2 (sX10_bits (nI sn) (mW J' B')) fun v7 w8 => some (v7, w8) := by
              rw [sX10_fits, if_pos (m_is J B), m_sheetT hs2, ab_b2_some, if_neg (by decide), mT_0_1 hx2, ab_b2_some, if_neg (by decide), m_R0, Option.bind_some, m2, Option.bind_some, m_R17, Option.bind_some, m_A8 J B ht4, Option.bind_some, if_neg hb, m_R18, Option.bind_some, m_A9 J B ht4, Option.bind_some, pz, nI_1, if_pos (by rw [hsz]), m_R19, Option.bind_some, e40, m_A10 J B (by omega), Option.bind_some, mT_0_60 hq2, ab_b2_some, if_neg (by decide), m_R0, Option.bind_some, m_R2, Option.bind_some, e1, Option.bind_some, show sX10_fits_96 1000 0 (nI t) (nI y) (nI (rn (B 1) 2)) 0 0 (mW J B1) = _ from f2, sX10_fits_96, if_neg (by decide)]
            rw [ec, em, c_bc (by omega), m_bits (by omega)]
            rcases (show y = 0 ∨ y = 1 by omega) with rfl | rfl
            · exact ok_same (tp := tp) (nI sn) h rfl rfl f3.cE f4.mE
            · exact ok_same (tp := tp) (nI (popc sn)) h rfl rfl f3.cE f4.mE
          · refine ok_err (tp := tp) (-1000000002) 2 (by decide) h ?_ ?_
            · rw [sX9_fits, if_pos (c_is0 I A tp), cT_0_3 hs2, ab_b2_some, if_neg (by decide), cT_0_1 hx2, ab_b2_some, if_neg (by decide), c_R0_1, Option.bind_some, c_Q2 I A tp ht4, Option.bind_some, c_miss ht4, ab_b2_some, p1, if_neg hb, if_pos rfl, c_h2 I A tp ht4, Option.bind_some, c_R0_3, Option.bind_some, c_I17_4, Option.bind_some, p2, pz, i2, nI_1, if_pos (by rw [hsz]), c_hR I A tp ht4, Option.bind_some, Option.bind_some, c_I17_4, Option.bind_some, i2, c_hA I A tp ht4 (by omega), Option.bind_some, p3 _ (by omega), cF_0_60 hq]
              rfl
            · rw [sX10_fits, if_pos (m_is J B), m_sheetT hs2, ab_b2_some, if_neg (by decide), mT_0_1 hx2, ab_b2_some, if_neg (by decide), m_R0, Option.bind_some, m2, Option.bind_some, m_R17, Option.bind_some, m_A8 J B ht4, Option.bind_some, if_neg hb, m_R18, Option.bind_some, m_A9 J B ht4, Option.bind_some, pz, nI_1, if_pos (by rw [hsz]), m_R19, Option.bind_some, e40, m_A10 J B (by omega), Option.bind_some, mF_0_60 hq]
              rfl
        · refine ok_err (tp := tp) (-1000000002) 2 (by decide) h ?_ ?_
          · rw [sX9_fits, if_pos (c_is0 I A tp), cT_0_3 hs2, ab_b2_some, if_neg (by decide), cT_0_1 hx2, ab_b2_some, if_neg (by decide), c_R0_1, Option.bind_some, c_Q2 I A tp ht4, Option.bind_some, c_miss ht4, ab_b2_some, p1, if_neg hb, if_pos rfl, c_h2 I A tp ht4, Option.bind_some, c_R0_3, Option.bind_some, c_I17_4, Option.bind_some, p2, pz, i2, nI_1, if_neg (fun e => hsz ((nI_eq (by omega) (by omega)).mp e))]
            rfl
          · rw [sX10_fits, if_pos (m_is J B), m_sheetT hs2, ab_b2_some, if_neg (by decide), mT_0_1 hx2, ab_b2_some, if_neg (by decide), m_R0, Option.bind_some, m2, Option.bind_some, m_R17, Option.bind_some, m_A8 J B ht4, Option.bind_some, if_neg hb, m_R18, Option.bind_some, m_A9 J B ht4, Option.bind_some, pz, nI_1, if_neg (fun e => hsz ((nI_eq (by omega) (by omega)).mp e))]
            rfl
    · refine ok_err (tp := tp) (-1000000001) 1 (by decide) h ?_ ?_
      · rw [sX9_fits, if_pos (c_is0 I A tp), cT_0_3 hs2, ab_b2_some, if_neg (by decide), cF_0_1 hx]
        rfl
      · rw [sX10_fits, if_pos (m_is J B), m_sheetT hs2, ab_b2_some, if_neg (by decide), mF_0_1 hx]
        rfl
  · refine ok_err (tp := tp) (-1000000001) 1 (by decide) h ?_ ?_
    · rw [sX9_fits, if_pos (c_is0 I A tp), cF_0_3 hs]
      rfl
    · rw [sX10_fits, if_pos (m_is J B), m_sheetF hs]
      rfl
end OP
