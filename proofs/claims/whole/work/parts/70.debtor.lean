section OP
variable {n : Nat} {I J : Nat → Int32} {A B : Nat → Nat → Int32} {tp : Nat} {g0 g1 : Int32 → Int32 → Int32 → Nat} {r : Nat → Int32}
def dN (f : Nat → Nat) : Nat → Nat
  | 0 => 0
  | k + 1 => dN f k + f k
theorem dN_le {f : Nat → Nat} {b : Nat} (hf : ∀ i, f i ≤ b) : ∀ c, dN f c ≤ c * b := by
  intro c
  induction c with
  | zero => simp [dN]
  | succ c ih =>
    have := hf c
    rw [dN, Nat.succ_mul]
    omega
theorem dN_congr {f f' : Nat → Nat} : ∀ c, (∀ k, k < c → f' k = f k) → dN f' c = dN f c := by
  intro c
  induction c with
  | zero => intro _; rfl
  | succ c ih =>
    intro h
    rw [dN, dN, ih (fun k hk => h k (by omega)), h c (by omega)]
theorem dN_one {f f' : Nat → Nat} {k : Nat} (hf : ∀ i, i ≠ k → f' i = f i) : ∀ c, k < c → dN f' c + f k = dN f c + f' k := by
  intro c
  induction c with
  | zero => intro h; omega
  | succ c ih =>
    intro h
    rw [dN, dN]
    by_cases e : k = c
    · subst e
      rw [dN_congr k (fun i hi => hf i (by omega))]
      omega
    · have := ih (by omega)
      rw [hf c (fun h => e h.symm)]
      omega
theorem dsum_N {ρ : Nat → Int32} {f : Nat → Nat} : ∀ c, (∀ k, k < c → ρ (8 + 6 * k + 2) = nI (f k)) → dsum ρ c = nI (dN f c) := by
  intro c
  induction c with
  | zero => intro _; rfl
  | succ c ih =>
    intro h
    rw [dsum, dN, ih (fun k hk => h k (by omega)), h c (by omega), nI_add]
def dU (g0 g1 : Int32 → Int32 → Int32 → Nat) (r : Nat → Int32) (q j : Nat) : Nat := dg g1 true (decide (rn r (8 + 6 * j + 0) = 5)) (str g0 (rn r (8 + 6 * j + 0)) (rn r (8 + 6 * j + 3)) (r 7)) (rn r 0) (rn r (8 + 6 * j + 5)) (rn r (8 + 6 * j + 2)) q
def lessD (g0 g1 : Int32 → Int32 → Int32 → Nat) (r : Nat → Int32) (q j : Nat) : Nat := if rn r (8 + 6 * j + 4) = 1 then 0 else rn r (8 + 6 * j + 2) - dU g0 g1 r q j
/-- what all owe, where j is up -/
theorem sum_up (hr : rowOk r) {q j : Nat} (hj : j < rn r 2) : ∃ v, dsum (rt g0 g1 (upd r (8 + 6 * j + 4) (nI 1)) q 0) (rn r 2) = nI v ∧ v + lessD g0 g1 r q j = dN (fun i => dT g0 g1 r i q) (rn r 2) := by
  have c2 := (rn_c hr).2
  refine ⟨dN (fun i => if i = j then dU g0 g1 r q j else dT g0 g1 r i q) (rn r 2), dsum_N _ (fun k hk => ?_), ?_⟩
  · rw [rt_debt (by rw [rn_upd_ne (by omega)]; exact hk), if_neg (by omega), dT]
    simp (disch := omega) only [rn_upd_ne, upd_ne]
    by_cases e : k = j
    · subst e
      rw [if_pos rfl, dU]
      simp (disch := omega) only [rn_upd_same, decide_true]
    · rw [if_neg e, dT]
      simp (disch := omega) only [rn_upd_ne]
  · have e := dN_one (f := fun i => dT g0 g1 r i q) (f' := fun i => if i = j then dU g0 g1 r q j else dT g0 g1 r i q) (k := j) (fun i hi => if_neg hi) (rn r 2) hj
    simp only [if_true] at e
    have hle : dU g0 g1 r q j ≤ rn r (8 + 6 * j + 2) := dg_le q
    rw [lessD]
    by_cases hu : rn r (8 + 6 * j + 4) = 1
    · have : dT g0 g1 r j q = dU g0 g1 r q j := by rw [dT, dU, hu]; rfl
      rw [if_pos hu]
      omega
    · have : dT g0 g1 r j q = rn r (8 + 6 * j + 2) := by rw [dT, show decide (rn r (8 + 6 * j + 4) = 1) = false from by simp [hu], dg_no]
      rw [if_neg hu]
      omega
def dR (T : Nat) (best least found most : Int32) : Prop := (best = -1 ∧ found = -1 ∧ most = -1) ∨ ∃ b l, b < 8 ∧ l ≤ T ∧ best = nI b ∧ found = nI b ∧ most = nI l ∧ least = nI (T - l)
theorem cm_debtor {q : Nat} (hM : EM (B 1) g0 g1) (hC : ∀ j, j < 8 → EC j I A (B 1) g0 g1) (h2 : I 2 = nI (rn (B 1) 2)) (hq : q ≤ 60) : ∀ (m j k : Nat) (I1 : Nat → Int32) (A1 : Nat → Nat → Int32) (J1 : Nat → Int32) (B1 : Nat → Nat → Int32) (best least found most : Int32), j + m = rn (B 1) 2 → cK I A I1 A1 → TH J B J1 B1 → dR (dN (fun i => dT g0 g1 (B 1) i q) (rn (B 1) 2)) best least found most → ∃ fin I' A' J' B', sX7_bestDebtor_9 (k + m + 1) 55 17 11 (nI q) found most (nI j) (cW I1 A1 tp) = some (fin, cW I' A' tp) ∧ sX10_debtor_36 (k + m + 1) 0 (nI q) best least (nI j) (mW J1 B1) = (if fin < 0 then ab_b2 (sX10_errs 0 (-1000000002) (mW J' B')) fun v10 w11 => some (v10, w11) else some (fin, mW J' B')) ∧ cK I A I' A' ∧ TH J B J' B' := by
  obtain ⟨c1, c2⟩ := rn_c hM.1
  have hT8 := dN_le (f := fun i => if i < 8 then dT g0 g1 (B 1) i q else 0) (b := 9999) (fun i => by
    show (if i < 8 then dT g0 g1 (B 1) i q else 0) ≤ 9999
    split
    · exact dT_le hM.1 (by assumption)
    · omega) (rn (B 1) 2)
  rw [dN_congr (f := fun i => dT g0 g1 (B 1) i q) _ (fun k hk => if_pos (by omega))] at hT8
  have hT9 : rn (B 1) 2 * 9999 ≤ 8 * 9999 := Nat.mul_le_mul_right _ c2
  generalize hT : dN (fun i => dT g0 g1 (B 1) i q) (rn (B 1) 2) = T at hT8
  intro m
  induction m with
  | zero =>
    intro j k I1 A1 J1 B1 best least found most hj hK hTH hd
    have : j = rn (B 1) 2 := by omega
    subst this
    have b3 : ab_ald (mW J1 B1) 3 2 = some (nI (rn (B 1) 2)) := by
      rw [show (2 : Int32) = nI 2 from rfl, m_A3 _ _ (by decide), hTH.2.2.1 2 (by decide), c1]
    have hbf : best = found := by
      rcases hd with ⟨a, b, -⟩ | ⟨b, l, -, -, e1, e2, -⟩
      · rw [a, b]
      · rw [e1, e2]
    subst hbf
    refine ⟨best, I1, A1, J1, B1, ?_, ?_, hK, hTH⟩
    · rw [sX7_bestDebtor_9, c_I17_4, Option.bind_some, hK.1 2 (by omega), h2, if_neg (nI_nlt (by omega) (by omega))]
    · rw [sX10_debtor_36, m_R2, Option.bind_some, b3, Option.bind_some, if_neg (nI_nlt (by omega) (by omega))]
  | succ m ih =>
    intro j k I1 A1 J1 B1 best least found most hj hK hTH hd
    have hj8 : j < 8 := by omega
    have b3 : ab_ald (mW J1 B1) 3 2 = some (nI (rn (B 1) 2)) := by
      rw [show (2 : Int32) = nI 2 from rfl, m_A3 _ _ (by decide), hTH.2.2.1 2 (by decide), c1]
    have Ej := (hC j hj8).cong hj8 (fun i hi => hK.1 i (by omega)) hK.2
    have q4 := rn_p hM.1 (j := j) (q := 4) hj8 (by decide)
    have q2 := rn_p hM.1 (j := j) (q := 2) hj8 (by decide)
    simp only [List.getD_cons_zero, List.getD_cons_succ] at q4 q2
    have hle : dU g0 g1 (B 1) q j ≤ rn (B 1) (8 + 6 * j + 2) := dg_le q
    -- the reference
    have hM' : EM (upd (B 1) (8 + 6 * j + 4) (nI 1)) g0 g1 := hM.upd1 (okP hj8 (by decide)) (by omega) (by rw [(bndP hj8).2.2.2.2.1]; omega)
    obtain ⟨J3, B3, e3, h3⟩ := m_passes (J := J1) (B := up2 B1 1 (8 + 6 * j + 4) (nI 1)) hM' (q := q) (by omega) (by rw [up2_at, hTH.2.1])
    obtain ⟨v, ev, hv⟩ := sum_up (g0 := g0) (g1 := g1) hM.1 (q := q) (j := j) (by omega)
    rw [hT] at hv
    obtain ⟨B5, e5, t5⟩ := m_thb (J := J) (B := B) hTH h3.1 h3.2.1 (fun k a b => by rw [h3.2.2 k a b, up2_ne a]) (fun i hi => by rw [rt_far226 hM'.1 i hi, upd_ne (by omega)])
    have b2 : B3 1 2 = nI (rn (B 1) 2) := by rw [h3.2.1, rt_else (by decide) (by rw [rn_upd_ne (by omega)]; omega), upd_ne (by omega)]; exact c1
    -- the class
    have key : ∃ I2 A2, cK I A I2 A2 ∧ sX7_bestDebtor_9 (k + m + 1 + 1) 55 17 11 (nI q) found most (nI j) (cW I1 A1 tp) = sX7_bestDebtor_61 (sX7_bestDebtor_9 (k + m + 1)) 55 17 11 (nI q) found most (nI j) (nI (lessD g0 g1 (B 1) q j)) (cW I2 A2 tp) := by
      by_cases hu : rn (B 1) (8 + 6 * j + 4) = 1
      · refine ⟨I1, A1, hK, ?_⟩
        rw [sX7_bestDebtor_9, c_I17_4, Option.bind_some, hK.1 2 (by omega), h2, if_pos (nI_lt (by omega) (by omega)), c_R17_0, Option.bind_some, c_Q18 _ _ _ hj8, Option.bind_some, c_pI _ _ _ hj8 4 (by decide), Option.bind_some, Ej.2.2.1 4 (by decide), q4.1, hu, if_neg (by decide), lessD, if_pos hu]
        rfl
      · obtain ⟨I2, A2, e2, k2, -⟩ := c_debtBehind (tp := tp) (q := q) true Ej hj8 (by omega)
        rw [← dU] at e2
        refine ⟨I2, A2, hK.trans k2, ?_⟩
        rw [sX7_bestDebtor_9, c_I17_4, Option.bind_some, hK.1 2 (by omega), h2, if_pos (nI_lt (by omega) (by omega)), c_R17_0, Option.bind_some, c_Q18 _ _ _ hj8, Option.bind_some, c_pI _ _ _ hj8 4 (by decide), Option.bind_some, Ej.2.2.1 4 (by decide), q4.1, show rn (B 1) (8 + 6 * j + 4) = 0 by omega, if_pos (by decide), Option.bind_some, c_Q18 _ _ _ hj8, Option.bind_some, c_pI _ _ _ hj8 2 (by decide), Option.bind_some, show sX7_debtBehind 55 17 11 (nI j) 1 (nI q) (cW I1 A1 tp) = _ from e2, ab_b2_some, Ej.2.2.1 2 (by decide), q2.1, pk_sub hle, lessD, if_neg hu]
    obtain ⟨I2, A2, k2, e2⟩ := key
    generalize lessD g0 g1 (B 1) q j = L at hv e2
    rw [show k + (m + 1) + 1 = (k + m + 1) + 1 by omega, e2, sX7_bestDebtor_61]
    rw [sX10_debtor_36, m_R2, Option.bind_some, b3, Option.bind_some, if_pos (nI_lt (by omega) (by omega)), show sX10_gets 0 (nI j) 4 1 (mW J1 B1) = _ from m_g4 hj8 (nI 1), Option.bind_some, e3, Option.bind_some, m_allDebt c2 b2, ab_b2_some, h3.2.1, ev, m_R2, Option.bind_some, m_R0, Option.bind_some, e5, Option.bind_some]
    have hnew : dR T (nI j) (nI v) (nI j) (nI L) := Or.inr ⟨j, L, hj8, by omega, rfl, rfl, rfl, by rw [show T - L = v by omega]⟩
    rcases hd with ⟨rfl, rfl, rfl⟩ | ⟨b, l, hb, hl, rfl, rfl, rfl, rfl⟩
    · rw [if_pos (show (-1 : Int32) < nI L from by
        rw [Int32.lt_iff_toInt_lt, nI_toInt (by omega), show (-1 : Int32).toInt = -1 from rfl]; omega), if_pos (by decide), sX7_bestDebtor_76, sX10_debtor_88, sX10_debtor_94, nI_1]
      exact ih (j + 1) k I2 A2 J3 B5 _ _ _ _ (by omega) k2 t5 hnew
    · rw [if_neg (nI_pos (by omega))]
      by_cases hlt : l < L
      · rw [if_pos (nI_lt hlt (by omega)), if_pos (nI_lt (show v < T - l by omega) (by omega)), sX7_bestDebtor_76, sX10_debtor_88, sX10_debtor_94, nI_1]
        exact ih (j + 1) k I2 A2 J3 B5 _ _ _ _ (by omega) k2 t5 hnew
      · rw [if_neg (nI_nlt (by omega) (by omega)), if_neg (nI_nlt (show T - l ≤ v by omega) (by omega)), sX7_bestDebtor_76, sX10_debtor_94, nI_1]
        exact ih (j + 1) k I2 A2 J3 B5 _ _ _ _ (by omega) k2 t5 (Or.inr ⟨b, l, hb, hl, rfl, rfl, rfl, rfl⟩)
theorem op_debtor (h : RR n I A J B) (v : Int32) : OK n (sX9_debtor 0 v (cW I A tp)) (sX10_debtor 0 v (mW J B)) := by
  by_cases hv : inR v 0 30
  · have hv2 := hv
    obtain ⟨q, -, q2, rfl⟩ := hv
    obtain ⟨g0, g1, hM, hC⟩ := h.laws
    obtain ⟨c1, c2⟩ := rn_c hM.1
    obtain ⟨B1, e1, t1⟩ := m_th0 (J := J) (B := B)
    obtain ⟨fin, I', A', J', B', f1, f2, f3, f4⟩ := cm_debtor (tp := tp) (q := q) hM hC (by rw [h.at (i := 2) (by unfold okI; omega)]; exact c1) (by omega) (rn (B 1) 2) 0 (999 - rn (B 1) 2) I A J B1 (-1) 0 (-1) (-1) (by omega) (cK.refl I A) t1 (Or.inl ⟨rfl, rfl, rfl⟩)
    rw [show 999 - rn (B 1) 2 + rn (B 1) 2 + 1 = 1000 by omega] at f1 f2
    rw [sX10_debtor, if_pos (m_is J B), mT_0_30 hv2, ab_b2_some, if_neg (by decide), m_R0, Option.bind_some, m_R2, Option.bind_some, e1, Option.bind_some, show sX10_debtor_36 1000 0 (nI q) (-1) 0 0 (mW J B1) = _ from f2]
    rw [sX9_debtor, if_pos (c_is0 I A tp), cT_0_30 hv2, ab_b2_some, if_neg (by decide), c_R0_5, Option.bind_some, c_R0_3, Option.bind_some, c_R0_2, Option.bind_some, sX7_bestDebtor, if_pos (c_is55 I A tp), show sX7_bestDebtor_9 1000 55 17 11 (nI q) (-1) (-1) 0 (cW I A tp) = _ from f1, ab_b2_some, sX9_orNone, if_pos (c_is0 I' A' tp)]
    by_cases hf : fin < 0
    · rw [if_pos hf, if_pos hf]
      exact ok_err (tp := tp) (-1000000002) 2 (by decide) (h.congr f3.cE f4.mE) rfl rfl
    · rw [if_neg hf, if_neg hf]
      exact ok_same (tp := tp) fin h rfl rfl f3.cE f4.mE
  · refine ok_err (tp := tp) (-1000000001) 1 (by decide) h ?_ ?_
    · rw [sX9_debtor, if_pos (c_is0 I A tp), cF_0_30 hv]
      rfl
    · rw [sX10_debtor, if_pos (m_is J B), mF_0_30 hv]
      rfl
end OP
