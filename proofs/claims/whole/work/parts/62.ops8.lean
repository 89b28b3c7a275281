theorem bits255 : ∀ k, k < 64 → (255#64).getLsbD k = decide (k < 8) := by decide
theorem bv_byte (x : BitVec 64) {s : Nat} (hs : s ≤ 56) : (x >>> s) &&& 255#64 = (x.sshiftRight s) &&& 255#64 := by
  apply BitVec.eq_of_getLsbD_eq
  intro k hk
  rw [BitVec.getLsbD_and, BitVec.getLsbD_and, bits255 k hk]
  by_cases h : k < 8
  · rw [BitVec.getLsbD_ushiftRight, BitVec.getLsbD_sshiftRight, if_pos (by omega), show decide (64 ≤ k) = false from by simp; omega]
    simp
  · simp [h]
theorem byte_eq (x : Int64) {i : Nat} (hi : i < 8) : ((x.toUInt64 >>> ((8 * nI i : Int32).toInt64.toUInt64 &&& Int64.toUInt64 63)).toInt64 &&& (255 : Int64)) = ((x >>> ((8 * nI i : Int32).toInt64 &&& 63)) &&& (255 : Int64)) := by
  apply Int64.toBitVec_inj.mp
  rcases (show i = 0 ∨ i = 1 ∨ i = 2 ∨ i = 3 ∨ i = 4 ∨ i = 5 ∨ i = 6 ∨ i = 7 by omega) with rfl | rfl | rfl | rfl | rfl | rfl | rfl | rfl
  · exact bv_byte x.toBitVec (s := 0) (by omega)
  · exact bv_byte x.toBitVec (s := 8) (by omega)
  · exact bv_byte x.toBitVec (s := 16) (by omega)
  · exact bv_byte x.toBitVec (s := 24) (by omega)
  · exact bv_byte x.toBitVec (s := 32) (by omega)
  · exact bv_byte x.toBitVec (s := 40) (by omega)
  · exact bv_byte x.toBitVec (s := 48) (by omega)
  · exact bv_byte x.toBitVec (s := 56) (by omega)
theorem upd_upd (f : Nat → Int32) (k : Nat) (x y : Int32) : upd (upd f k x) k y = upd f k y := by
  funext i
  by_cases h : i = k
  · subst h; rw [upd_same, upd_same]
  · rw [upd_ne h, upd_ne h, upd_ne h]
section OP
variable {n : Nat} {I J : Nat → Int32} {A B : Nat → Nat → Int32} {tp : Nat}
theorem cm_feed {x : Int64} {f q : Nat} (hf : f + q ≤ 50) (hq : q ≤ 8) (hI : I 3 = nI f) : ∀ (m i k : Nat) (A B : Nat → Nat → Int32), i + m = q → RR n (upd I 3 (nI (f + i))) A J B → ∃ A' B', sX9_feed_39 (k + m + 1) 0 x (nI q) (nI i) (cW I A tp) = some (nI (f + q), cW (upd I 3 (nI (f + q))) A' tp) ∧ sX10_feed_40 (k + m + 1) 0 x (nI q) (nI i) (mW J B) = some (nI (f + q), mW J B') ∧ RR n (upd I 3 (nI (f + q))) A' J B' := by
  intro m
  induction m with
  | zero =>
    intro i k A B hi h
    have : i = q := by omega
    subst this
    have hB : B 1 3 = nI (f + i) := by rw [← h.at (i := 3) (by unfold okI; omega), upd_same]
    refine ⟨A, B, ?_, ?_, h⟩
    · rw [sX9_feed_39, if_neg (nI_nlt (by omega) (by omega)), c_R0_3, Option.bind_some, c_I17_7, Option.bind_some, c_P17_7, Option.bind_some, c_R0_3, Option.bind_some, c_I17_7, Option.bind_some, upd_same, hI, nI_add]
    · rw [sX10_feed_40, if_neg (nI_nlt (by omega) (by omega)), ← hB]
      rfl
  | succ m ih =>
    intro i k A B hi h
    have hB : B 1 3 = nI (f + i) := by rw [← h.at (i := 3) (by unfold okI; omega), upd_same]
    have m3 : ∀ B, ab_ald (mW J B) 1 3 = some (B 1 3) := fun B => rfl
    have s3 : ∀ (B : Nat → Nat → Int32) (v : Int32), ab_ast (mW J B) 1 3 v = some (mW J (up2 B 1 3 v)) := fun B v => rfl
    rw [show k + (m + 1) + 1 = (k + m + 1) + 1 by omega, sX9_feed_39, if_pos (nI_lt (by omega) (by omega)), c_R0_3, Option.bind_some, c_R17_1, Option.bind_some, Option.bind_some, c_I17_7, Option.bind_some, hI, nI_add, c_S19 I A tp _ (by omega), Option.bind_some, nI_1, byte_eq x (by omega)]
    rw [sX10_feed_40, if_pos (nI_lt (by omega) (by omega)), m_R0, Option.bind_some, Option.bind_some, m3, Option.bind_some, hB, show (56 + nI (f + i) : Int32) = nI (56 + (f + i)) from nI_add 56 (f + i), m_S1 J B _ (by omega), Option.bind_some, m_R0, Option.bind_some, m3, Option.bind_some, s3, Option.bind_some, nI_1, up2_at, upd_ne (by omega), hB, nI_1]
    have h' := (h.tape (j := f + i) ((x >>> ((8 * nI i : Int32).toInt64 &&& 63)) &&& (255 : Int64)).toInt32 (by omega)).desk (i := 3) (v := nI (f + i + 1)) (by unfold okI; omega) (Or.inr (inN_nI (by show _ ≤ 50; omega)))
    rw [upd_upd] at h'
    exact ih (i + 1) k _ _ (by omega) h'
theorem op_feed (h : RR n I A J B) (x : Int64) (v : Int32) : OK n (sX9_feed 0 x v (cW I A tp)) (sX10_feed 0 x v (mW J B)) := by
  by_cases hv : inR v 1 8
  · have hv2 := hv
    obtain ⟨q, q1, q2, rfl⟩ := hv
    obtain ⟨f, hf, fB, fI⟩ := h.val (i := 3) (by unfold okI; omega) (by decide)
    have hf : f ≤ 50 := hf
    have m3 : ab_ald (mW J B) 1 3 = some (nI f) := by rw [← fB]; rfl
    by_cases hlt : 50 < f + q
    · refine ok_err (tp := tp) (-1000000004) 4 (by decide) h ?_ ?_
      · rw [sX9_feed, if_pos (c_is0 I A tp), cT_1_8 hv2, ab_b2_some, if_neg (by decide), c_R0_3, Option.bind_some, c_I17_7, Option.bind_some, fI, nI_add, if_pos (show (50 : Int32) < nI (f + q) from nI_lt (a := 50) hlt (by omega))]
        rfl
      · rw [sX10_feed, if_pos (m_is J B), mT_1_8 hv2, ab_b2_some, if_neg (by decide), m_R0, Option.bind_some, m3, Option.bind_some, nI_add, if_pos (show (50 : Int32) < nI (f + q) from nI_lt (a := 50) hlt (by omega))]
        rfl
    · obtain ⟨A', B', e1, e2, e3⟩ := cm_feed (n := n) (J := J) (tp := tp) (x := x) (f := f) (q := q) (I := I) (by omega) q2 fI q 0 (999 - q) A B (by omega) (by
        rw [Nat.add_zero, ← fI, show upd I 3 (I 3) = I from by
          funext i
          by_cases e : i = 3
          · subst e; rw [upd_same]
          · rw [upd_ne e]]
        exact h)
      rw [show 999 - q + q + 1 = 1000 by omega] at e1 e2
      refine ⟨nI (f + q), _, A', tp, J, B', ?_, ?_, e3.mono⟩
      · rw [sX9_feed, if_pos (c_is0 I A tp), cT_1_8 hv2, ab_b2_some, if_neg (by decide), c_R0_3, Option.bind_some, c_I17_7, Option.bind_some, fI, nI_add, if_neg (show ¬ (50 : Int32) < nI (f + q) from nI_nlt (b := f + q) (a := 50) (by omega) (by omega))]
        exact e1
      · rw [sX10_feed, if_pos (m_is J B), mT_1_8 hv2, ab_b2_some, if_neg (by decide), m_R0, Option.bind_some, m3, Option.bind_some, nI_add, if_neg (show ¬ (50 : Int32) < nI (f + q) from nI_nlt (b := f + q) (a := 50) (by omega) (by omega))]
        exact e2
  · refine ok_err (tp := tp) (-1000000001) 1 (by decide) h ?_ ?_
    · rw [sX9_feed, if_pos (c_is0 I A tp), cF_1_8 hv]
      rfl
    · rw [sX10_feed, if_pos (m_is J B), mF_1_8 hv]
      rfl
/-! sums and sets of papers -/
def dsum (r : Nat → Int32) : Nat → Int32
  | 0 => 0
  | k + 1 => dsum r k + r (8 + 6 * k + 2)
def sv (P : Nat → Bool) : Nat → Int32
  | 0 => 0
  | k + 1 => if P k then sv P k ||| (1 <<< (nI k &&& 31)) else sv P k
def upP (r : Nat → Int32) (far : Nat) (k : Nat) : Bool := r (8 + 6 * k + 4) = 1 && !decide (r (8 + 6 * k + 5) < nI far)
theorem dsum_congr {r r' : Nat → Int32} : ∀ c, (∀ k, k < c → r' (8 + 6 * k + 2) = r (8 + 6 * k + 2)) → dsum r' c = dsum r c := by
  intro c
  induction c with
  | zero => intro _; rfl
  | succ c ih =>
    intro h
    rw [dsum, dsum, ih (fun k hk => h k (by omega)), h c (by omega)]
theorem sv_congr {P Q : Nat → Bool} : ∀ c, (∀ k, k < c → P k = Q k) → sv P c = sv Q c := by
  intro c
  induction c with
  | zero => intro _; rfl
  | succ c ih =>
    intro h
    rw [sv, sv, ih (fun k hk => h k (by omega)), h c (by omega)]
theorem m_R2' (J : Nat → Int32) (B : Nat → Nat → Int32) : ab_ald (mW J B) 1 2 = some (B 1 2) := rfl
theorem m_allDebt_4 {c : Nat} (hc8 : c ≤ 8) (hc : B 1 2 = nI c) : ∀ (m j k : Nat), j + m = c → sX10_allDebt_4 (k + m + 1) 0 (dsum (B 1) j) (nI j) (mW J B) = some (dsum (B 1) c, mW J B) := by
  intro m
  induction m with
  | zero =>
    intro j k hj
    have : j = c := by omega
    subst this
    rw [sX10_allDebt_4, m_R0, Option.bind_some, m_R2', Option.bind_some, hc, if_neg (nI_nlt (by omega) (by omega))]
  | succ m ih =>
    intro j k hj
    rw [show k + (m + 1) + 1 = (k + m + 1) + 1 by omega, sX10_allDebt_4, m_R0, Option.bind_some, m_R2', Option.bind_some, hc, if_pos (nI_lt (by omega) (by omega)), m_i2 (by omega), ab_b2_some, nI_1]
    exact ih (j + 1) k (by omega)
theorem m_allDebt {c : Nat} (hc8 : c ≤ 8) (hc : B 1 2 = nI c) : sX10_allDebt 0 (mW J B) = some (dsum (B 1) c, mW J B) := by
  rw [sX10_allDebt, if_pos (m_is J B)]
  have e := m_allDebt_4 (J := J) hc8 hc c 0 (999 - c) (by omega)
  rw [show 999 - c + c + 1 = 1000 by omega] at e
  exact e
theorem c_debtOfAll_4 {c : Nat} (hc8 : c ≤ 8) (hc : I 2 = nI c) : ∀ (m j k : Nat), j + m = c → sX0_debtOfAll_4 (k + m + 1) 17 (dsum I j) (nI j) (cW I A tp) = some (dsum I c, cW I A tp) := by
  intro m
  induction m with
  | zero =>
    intro j k hj
    have : j = c := by omega
    subst this
    rw [sX0_debtOfAll_4, c_I17_4, Option.bind_some, hc, if_neg (nI_nlt (by omega) (by omega))]
  | succ m ih =>
    intro j k hj
    rw [show k + (m + 1) + 1 = (k + m + 1) + 1 by omega, sX0_debtOfAll_4, c_I17_4, Option.bind_some, hc, if_pos (nI_lt (by omega) (by omega)), c_R17_0, Option.bind_some, c_Q18 I A tp (by omega), Option.bind_some, c_pI I A tp (by omega) 2 (by decide), Option.bind_some, nI_1]
    exact ih (j + 1) k (by omega)
theorem c_debtOfAll {c : Nat} (hc8 : c ≤ 8) (hc : I 2 = nI c) : sX0_debtOfAll 17 (cW I A tp) = some (dsum I c, cW I A tp) := by
  rw [sX0_debtOfAll, if_pos (c_is17 I A tp)]
  have e := c_debtOfAll_4 (A := A) (tp := tp) hc8 hc c 0 (999 - c) (by omega)
  rw [show 999 - c + c + 1 = 1000 by omega] at e
  exact e
theorem m_setOf_4 {c g : Nat} (hc8 : c ≤ 8) (hg : g = 0 ∨ g = 1) (hc : B 1 2 = nI c) (hf : ∀ j, j < c → ¬ B 1 (8 + 6 * j + 5) < 0) : ∀ (m j k : Nat), j + m = c → sX10_setOf_4 (k + m + 1) 0 (nI g) (sv (upP (B 1) (100 * g)) j) (nI j) (mW J B) = some (sv (upP (B 1) (100 * g)) c, mW J B) := by
  intro m
  induction m with
  | zero =>
    intro j k hj
    have : j = c := by omega
    subst this
    rw [sX10_setOf_4, m_R0, Option.bind_some, m_R2', Option.bind_some, hc, if_neg (nI_nlt (by omega) (by omega))]
  | succ m ih =>
    intro j k hj
    have e := ih (j + 1) k (by omega)
    rw [show k + (m + 1) + 1 = (k + m + 1) + 1 by omega, sX10_setOf_4, m_R0, Option.bind_some, m_R2', Option.bind_some, hc, if_pos (nI_lt (by omega) (by omega)), m_i4 (by omega), ab_b2_some]
    rw [sv] at e
    by_cases h1 : B 1 (8 + 6 * j + 4) = 1
    · rw [if_pos h1]
      rcases hg with rfl | rfl
      · rw [show upP (B 1) (100 * 0) j = true from by simp only [upP, h1, Bool.and_eq_true, Bool.not_eq_true', decide_eq_true_eq, decide_eq_false_iff_not, true_and]; exact hf j (by omega), if_pos rfl] at e
        rw [if_pos (by decide), sX10_setOf_40, sX10_setOf_47, nI_1]
        exact e
      · rw [if_neg (by decide), m_i5 (by omega), ab_b2_some]
        by_cases h2 : B 1 (8 + 6 * j + 5) < 100
        · rw [show upP (B 1) (100 * 1) j = false from by simp only [upP, h1, Bool.and_eq_false_iff, Bool.not_eq_false', decide_eq_true_eq]; exact Or.inr h2, if_neg (by decide)] at e
          rw [if_pos h2, sX10_setOf_46, sX10_setOf_47, nI_1, Int32.or_zero]
          exact e
        · rw [show upP (B 1) (100 * 1) j = true from by simp only [upP, h1, Bool.and_eq_true, Bool.not_eq_true', decide_eq_true_eq, decide_eq_false_iff_not, true_and]; exact h2, if_pos rfl] at e
          rw [if_neg h2, sX10_setOf_40, sX10_setOf_47, nI_1]
          exact e
    · rw [show upP (B 1) (100 * g) j = false from by simp [upP, h1], if_neg (by decide)] at e
      rw [if_neg h1, sX10_setOf_46, sX10_setOf_47, nI_1, Int32.or_zero]
      exact e
theorem m_setOf {c g : Nat} (hc8 : c ≤ 8) (hg : g = 0 ∨ g = 1) (hc : B 1 2 = nI c) (hf : ∀ j, j < c → ¬ B 1 (8 + 6 * j + 5) < 0) : sX10_setOf 0 (nI g) (mW J B) = some (sv (upP (B 1) (100 * g)) c, mW J B) := by
  rw [sX10_setOf, if_pos (m_is J B)]
  have e := m_setOf_4 (J := J) hc8 hg hc hf c 0 (999 - c) (by omega)
  rw [show 999 - c + c + 1 = 1000 by omega] at e
  exact e
theorem c_upFrom_4 {c g : Nat} (hc8 : c ≤ 8) (hc : I 2 = nI c) (hu : ∀ j, j < c → I (8 + 6 * j + 4) = 0 ∨ I (8 + 6 * j + 4) = 1) : ∀ (m j k : Nat), j + m = c → sX0_upFrom_4 (k + m + 1) 17 (nI g) (sv (upP I g) j) (nI j) (cW I A tp) = some (sv (upP I g) c, cW I A tp) := by
  intro m
  induction m with
  | zero =>
    intro j k hj
    have : j = c := by omega
    subst this
    rw [sX0_upFrom_4, c_I17_4, Option.bind_some, hc, if_neg (nI_nlt (by omega) (by omega))]
  | succ m ih =>
    intro j k hj
    have e := ih (j + 1) k (by omega)
    rw [sv] at e
    rw [show k + (m + 1) + 1 = (k + m + 1) + 1 by omega, sX0_upFrom_4, c_I17_4, Option.bind_some, hc, if_pos (nI_lt (by omega) (by omega)), c_R17_0, Option.bind_some, c_Q18 I A tp (by omega), Option.bind_some, c_pI I A tp (by omega) 4 (by decide), Option.bind_some]
    rcases hu j (by omega) with h1 | h1
    · rw [show upP I g j = false from by simp [upP, h1], if_neg (by decide)] at e
      rw [if_pos h1, sX0_upFrom_43, nI_1]
      exact e
    · rw [if_neg (by rw [h1]; decide), Option.bind_some, c_Q18 I A tp (by omega), Option.bind_some, c_pI I A tp (by omega) 5 (by decide), Option.bind_some]
      by_cases h2 : I (8 + 6 * j + 5) < nI g
      · rw [show upP I g j = false from by simp [upP, h2], if_neg (by decide)] at e
        rw [if_pos h2, sX0_upFrom_43, nI_1]
        exact e
      · rw [show upP I g j = true from by simp [upP, h1, h2], if_pos rfl] at e
        rw [if_neg h2, sX0_upFrom_43, nI_1]
        exact e
theorem c_upFrom {c g : Nat} (hc8 : c ≤ 8) (hc : I 2 = nI c) (hu : ∀ j, j < c → I (8 + 6 * j + 4) = 0 ∨ I (8 + 6 * j + 4) = 1) : sX0_upFrom 17 (nI g) (cW I A tp) = some (sv (upP I g) c, cW I A tp) := by
  rw [sX0_upFrom, if_pos (c_is17 I A tp)]
  have e := c_upFrom_4 (A := A) (tp := tp) (g := g) hc8 hc hu c 0 (999 - c) (by omega)
  rw [show 999 - c + c + 1 = 1000 by omega] at e
  exact e
theorem RR.dsum (h : RR n I A J B) {c : Nat} (hc : c ≤ 8) : dsum I c = dsum (B 1) c := dsum_congr c (fun k hk => h.at (okP (j := k) (q := 2) (by omega) (by decide)))
theorem RR.up01 (h : RR n I A J B) {j : Nat} (hj : j < 8) : I (8 + 6 * j + 4) = 0 ∨ I (8 + 6 * j + 4) = 1 := by
  obtain ⟨u, u1, -, uI⟩ := h.pv (q := 4) hj (by decide)
  simp only [List.getD_cons_zero, List.getD_cons_succ] at u1
  rcases (show u = 0 ∨ u = 1 by omega) with rfl | rfl
  · exact Or.inl uI
  · exact Or.inr uI
theorem op_count (h : RR n I A J B) (v : Int32) : OK n (sX9_count 0 v (cW I A tp)) (sX10_count 0 v (mW J B)) := by
  obtain ⟨c, hc8, hcB, hcI⟩ := h.many
  have hf : ∀ j, j < c → ¬ B 1 (8 + 6 * j + 5) < 0 := by
    intro j hj
    obtain ⟨q, q1, qB, -⟩ := h.pv (j := j) (q := 5) (by omega) (by decide)
    simp only [List.getD_cons_zero, List.getD_cons_succ] at q1
    rw [qB]
    exact nI_pos (by omega)
  have eu : ∀ g, sv (upP I g) c = sv (upP (B 1) g) c := fun g => sv_congr c (fun k hk => by
    rw [upP, upP, h.at (okP (j := k) (q := 4) (by omega) (by decide)), h.at (okP (j := k) (q := 5) (by omega) (by decide))])
  rw [sX9_count, if_pos (c_is0 I A tp), sX10_count, if_pos (m_is J B)]
  by_cases h0 : v = 0
  · rw [if_pos h0, if_pos h0]
    refine ok_same (tp := tp) (I 2) h rfl ?_ (cE.refl I A) (mE.refl J B)
    rw [h.at (i := 2) (by unfold okI; omega)]; rfl
  rw [if_neg h0, if_neg h0]
  by_cases h1 : v = 1
  · rw [if_pos h1, if_pos h1]
    refine ok_same (tp := tp) (I 0) h rfl ?_ (cE.refl I A) (mE.refl J B)
    rw [h.at (i := 0) (by unfold okI; omega)]; rfl
  rw [if_neg h1, if_neg h1]
  by_cases h2 : v = 2
  · rw [if_pos h2, if_pos h2]
    refine ok_same (tp := tp) (I 7) h rfl ?_ (cE.refl I A) (mE.refl J B)
    rw [h.at (i := 7) (by unfold okI; omega)]; rfl
  rw [if_neg h2, if_neg h2]
  by_cases h3 : v = 3
  · rw [if_pos h3, if_pos h3, c_R0_3, Option.bind_some, c_debtOfAll hc8 hcI, m_allDebt hc8 hcB, h.dsum hc8]
    exact ok_same (tp := tp) _ h rfl rfl (cE.refl I A) (mE.refl J B)
  rw [if_neg h3, if_neg h3]
  by_cases h4 : v = 4
  · rw [if_pos h4, if_pos h4, c_R0_3, Option.bind_some]
    have e1 := c_upFrom (A := A) (tp := tp) (g := 0) hc8 hcI (fun j hj => h.up01 (by omega))
    have e2 := m_setOf (J := J) (g := 0) hc8 (Or.inl rfl) hcB hf
    rw [eu] at e1
    rw [show sX0_upFrom 17 0 (cW I A tp) = _ from e1, show sX10_setOf 0 0 (mW J B) = _ from e2]
    exact ok_same (tp := tp) _ h rfl rfl (cE.refl I A) (mE.refl J B)
  rw [if_neg h4, if_neg h4]
  by_cases h5 : v = 5
  · rw [if_pos h5, if_pos h5, c_R0_3, Option.bind_some]
    have e1 := c_upFrom (A := A) (tp := tp) (g := 100) hc8 hcI (fun j hj => h.up01 (by omega))
    have e2 := m_setOf (J := J) (g := 1) hc8 (Or.inr rfl) hcB hf
    rw [eu] at e1
    rw [show sX0_upFrom 17 100 (cW I A tp) = _ from e1, show sX10_setOf 0 1 (mW J B) = _ from e2]
    exact ok_same (tp := tp) _ h rfl rfl (cE.refl I A) (mE.refl J B)
  rw [if_neg h5, if_neg h5]
  by_cases h6 : v = 6
  · rw [if_pos h6, if_pos h6]
    refine ok_same (tp := tp) (I 3) h rfl ?_ (cE.refl I A) (mE.refl J B)
    rw [h.at (i := 3) (by unfold okI; omega)]; rfl
  rw [if_neg h6, if_neg h6]
  by_cases h7 : v = 7
  · rw [if_pos h7, if_pos h7]
    refine ok_same (tp := tp) (I 4) h rfl ?_ (cE.refl I A) (mE.refl J B)
    rw [h.at (i := 4) (by unfold okI; omega)]; rfl
  rw [if_neg h7, if_neg h7]
  by_cases h8 : v = 8
  · rw [if_pos h8, if_pos h8]
    refine ok_same (tp := tp) (I 424) h rfl ?_ (cE.refl I A) (mE.refl J B)
    rw [h.2.2.2.2.1.1]; rfl
  rw [if_neg h8, if_neg h8]
  by_cases h9 : v = 9
  · rw [if_pos h9, if_pos h9]
    refine ok_same (tp := tp) (I 1) h rfl ?_ (cE.refl I A) (mE.refl J B)
    rw [h.at (i := 1) (by unfold okI; omega)]; rfl
  rw [if_neg h9, if_neg h9]
  exact ok_err (tp := tp) (-1000000001) 1 (by decide) h rfl rfl
end OP
