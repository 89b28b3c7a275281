/-! sets as numbers -/
theorem nI_and (a b : Nat) : nI a &&& nI b = nI (a &&& b) := Int32.toBitVec_inj.mp (by
  show BitVec.ofNat 32 a &&& BitVec.ofNat 32 b = BitVec.ofNat 32 (a &&& b)
  exact BitVec.ofNat_and.symm)
theorem nI_or (a b : Nat) : nI a ||| nI b = nI (a ||| b) := Int32.toBitVec_inj.mp (by
  show BitVec.ofNat 32 a ||| BitVec.ofNat 32 b = BitVec.ofNat 32 (a ||| b)
  exact BitVec.ofNat_or.symm)
theorem nI_xor (a b : Nat) : nI a ^^^ nI b = nI (a ^^^ b) := Int32.toBitVec_inj.mp (by
  show BitVec.ofNat 32 a ^^^ BitVec.ofNat 32 b = BitVec.ofNat 32 (a ^^^ b)
  exact BitVec.ofNat_xor.symm)
def svN (P : Nat → Bool) : Nat → Nat
  | 0 => 0
  | k + 1 => if P k then svN P k ||| 2 ^ k else svN P k
theorem svN_lt (P : Nat → Bool) : ∀ c, svN P c < 2 ^ c := by
  intro c
  induction c with
  | zero => exact Nat.one_pos
  | succ c ih =>
    have h1 : 2 ^ c < 2 ^ (c + 1) := Nat.pow_lt_pow_right (by decide) (by omega)
    rw [svN]
    split
    · exact Nat.or_lt_two_pow (by omega) h1
    · omega
theorem svN_bit (P : Nat → Bool) : ∀ c k, (svN P c).testBit k = (decide (k < c) && P k) := by
  intro c
  induction c with
  | zero => intro k; simp [svN]
  | succ c ih =>
    intro k
    rw [svN]
    by_cases hk : k = c
    · subst hk
      cases hP : P k
      · rw [if_neg (by simp), ih]; simp
      · rw [if_pos rfl, Nat.testBit_or, ih, Nat.testBit_two_pow_self]; simp
    · have e : decide (k < c + 1) = decide (k < c) := by
        by_cases h : k < c
        · simp [h]; omega
        · simp [h]; omega
      rw [e]
      split
      · rw [Nat.testBit_or, ih, Nat.testBit_two_pow_of_ne (fun h => hk h.symm), Bool.or_false]
      · exact ih k
theorem one_shl {k : Nat} (h : k < 31) : (1 <<< (nI k &&& 31) : Int32) = nI (2 ^ k) := by
  have : ∀ k, k < 31 → (1 <<< (nI k &&& 31) : Int32) = nI (2 ^ k) := by decide +kernel
  exact this k h
theorem sv_N (P : Nat → Bool) : ∀ c, c ≤ 31 → sv P c = nI (svN P c) := by
  intro c
  induction c with
  | zero => intro _; rfl
  | succ c ih =>
    intro hc
    rw [sv, svN, ih (by omega), one_shl (by omega), nI_or]
    split <;> rfl
theorem sv_eq {P Q : Nat → Bool} {c : Nat} (hc : c ≤ 8) : sv P c = sv Q c ↔ ∀ k, k < c → P k = Q k := by
  constructor
  · intro h k hk
    have h1 := svN_lt P c
    have h2 := svN_lt Q c
    have h3 : 2 ^ c ≤ 2 ^ 8 := Nat.pow_le_pow_right (by decide) hc
    rw [sv_N P c (by omega), sv_N Q c (by omega)] at h
    have h := (nI_eq (by omega) (by omega)).mp h
    have e := congrArg (fun x => x.testBit k) h
    simp only [svN_bit, hk, decide_true, Bool.true_and] at e
    exact e
  · exact sv_congr c
theorem bit0_of {m k : Nat} (hm : m < 256) (hk : k < 8) : (((nI m >>> (nI k &&& 31)) &&& 1) = 0) ↔ m.testBit k = false := by
  have h : ∀ m, m < 256 → ∀ k, k < 8 → ((((nI m >>> (nI k &&& 31)) &&& 1) = 0) ↔ m.testBit k = false) := by decide +kernel
  exact h m hm k hk
theorem sv_bit {P Q : Nat → Bool} {c k : Nat} (hc : c ≤ 8) (hk : k < c) : ((((sv P c &&& (sv Q c ^^^ (-1))) >>> (nI k &&& 31)) &&& 1) = 0) ↔ ¬ (P k = true ∧ Q k = false) := by
  have h1 := svN_lt P c
  have h3 : 2 ^ c ≤ 2 ^ 8 := Nat.pow_le_pow_right (by decide) hc
  rw [sv_N P c (by omega), sv_N Q c (by omega), show (-1 : Int32) = nI (2 ^ 32 - 1) from rfl, nI_xor, nI_and, bit0_of (Nat.lt_of_le_of_lt Nat.and_le_left (by omega)) (by omega), Nat.testBit_and, Nat.testBit_xor, Nat.testBit_two_pow_sub_one, svN_bit, svN_bit]
  simp only [hk, decide_true, Bool.true_and, show k < 32 by omega]
  cases P k <;> cases Q k <;> decide
/-! ===== first ===== -/
def Qg (g0 : Int32 → Int32 → Int32 → Nat) (r : Nat → Int32) (t k : Nat) : Bool := decide (rn r (8 + 6 * k + 4) = 1) && decide (100 ≤ fT g0 r k t)
theorem fg_mono {up rs : Bool} {s d far : Nat} (h : far ≤ 999) (t : Nat) : fg up rs s d far t ≤ fg up rs s d far (t + 1) := by
  have := fg_le (up := up) (rs := rs) (s := s) (d := d) h t
  rw [fg]
  split <;> omega
theorem fg_mono2 {up rs : Bool} {s d far : Nat} (h : far ≤ 999) (a : Nat) : ∀ b, fg up rs s d far a ≤ fg up rs s d far (a + b) := by
  intro b
  induction b with
  | zero => exact Nat.le_refl _
  | succ b ih => exact Nat.le_trans ih (fg_mono h (a + b))
theorem Qg_mono {g0 : Int32 → Int32 → Int32 → Nat} {r : Nat → Int32} (hr : rowOk r) {k : Nat} (hk : k < 8) (t : Nat) (h : Qg g0 r 0 k = true) : Qg g0 r t k = true := by
  rw [Qg, Bool.and_eq_true, decide_eq_true_eq, decide_eq_true_eq] at h ⊢
  have := fg_mono2 (up := decide (rn r (8 + 6 * k + 4) = 1)) (rs := decide (rn r (8 + 6 * k + 0) = 5)) (s := str g0 (rn r (8 + 6 * k + 0)) (rn r (8 + 6 * k + 3)) (r 7)) (d := rn r 0) (rn_p hr (j := k) (q := 5) hk (by decide)).2 0 t
  rw [Nat.zero_add] at this
  exact ⟨h.1, Nat.le_trans h.2 this⟩
def Nw (g0 : Int32 → Int32 → Int32 → Nat) (r : Nat → Int32) (t k : Nat) : Prop := Qg g0 r t k = true ∧ Qg g0 r 0 k = false
/-- the least number of days behind which one more is gone, and which -/
def NG (g0 : Int32 → Int32 → Int32 → Nat) (r : Nat → Int32) (c N : Nat) : Prop := N ≤ 61 ∧ (∀ t, t < N → ∀ k, k < c → ¬ Nw g0 r t k)
theorem upP_rt {g0 g1 : Int32 → Int32 → Int32 → Nat} {r : Nat → Int32} (hr : rowOk r) {t k : Nat} (hk : k < rn r 2) : upP (rt g0 g1 r t 0) 100 k = Qg g0 r t k := by
  have c2 := (rn_c hr).2
  have q4 := rn_p hr (j := k) (q := 4) (by omega) (by decide)
  simp only [List.getD_cons_zero, List.getD_cons_succ] at q4
  have hf : fT g0 r k t ≤ 999 := fT_le hr (by omega)
  rw [upP, Qg, rt_far hk, if_neg (by omega), rt_else (by omega) (by omega), q4.1]
  congr 1
  · rw [decide_eq_decide]
    exact nI_eq (b := 1) (by omega) (by decide)
  · rw [← decide_not, decide_eq_decide, nI_ltI (by omega) (by decide)]
    omega
section FI
variable {J : Nat → Int32} {B : Nat → Nat → Int32} {g0 g1 : Int32 → Int32 → Int32 → Nat}
theorem m_setT (hM : EM (B 1) g0 g1) {J1 : Nat → Int32} {B1 : Nat → Nat → Int32} {t : Nat} (h1 : B1 1 = rt g0 g1 (B 1) t 0) : sX10_setOf 0 1 (mW J1 B1) = some (sv (Qg g0 (B 1) t) (rn (B 1) 2), mW J1 B1) := by
  obtain ⟨c1, c2⟩ := rn_c hM.1
  have e := m_setOf (J := J1) (B := B1) (c := rn (B 1) 2) (g := 1) c2 (Or.inr rfl) (by rw [h1, rt_else (by decide) (by omega)]; exact c1) (fun j hj => by
    have hf : fT g0 (B 1) j t ≤ 999 := fT_le hM.1 (by omega)
    rw [h1, rt_far hj, if_neg (by omega)]
    exact nI_pos (by omega))
  rw [h1, sv_congr (Q := Qg g0 (B 1) t) _ (fun k hk => upP_rt hM.1 hk)] at e
  exact e
theorem m_first_36 (hM : EM (B 1) g0 g1) {x : Int32} : ∀ (m t k : Nat) (J1 : Nat → Int32) (B1 B0 : Nat → Nat → Int32), t + m = 61 → TH J B J1 B0 → B1 1 = rt g0 g1 (B 1) t 0 → (∀ k, k ≠ 1 → k ≠ 6 → B1 k = B0 k) → NG g0 (B 1) (rn (B 1) 2) t → ∃ N J' B', sX10_first_36 (k + m + 1) 0 x (sv (Qg g0 (B 1) 0) (rn (B 1) 2)) (nI t) (mW J1 B1) = sX10_first_61 0 x (sv (Qg g0 (B 1) 0) (rn (B 1) 2)) (nI N) (mW J' B') ∧ TH J B J' B0 ∧ B' 1 = rt g0 g1 (B 1) N 0 ∧ (∀ k, k ≠ 1 → k ≠ 6 → B' k = B0 k) ∧ NG g0 (B 1) (rn (B 1) 2) N ∧ (N = 61 ∨ ∃ k, k < rn (B 1) 2 ∧ Nw g0 (B 1) N k) := by
  have c2 := (rn_c hM.1).2
  intro m
  induction m with
  | zero =>
    intro t k J1 B1 B0 ht hT h1 hB hN
    have : t = 61 := by omega
    subst this
    exact ⟨61, J1, B1, by rw [sX10_first_36, if_pos (by decide)], hT, h1, hB, hN, Or.inl rfl⟩
  | succ m ih =>
    intro t k J1 B1 B0 ht hT h1 hB hN
    rw [show k + (m + 1) + 1 = (k + m + 1) + 1 by omega, sX10_first_36, if_neg (show ¬ (60 : Int32) < nI t from nI_nlt (a := 60) (by omega) (by decide)), m_setT hM h1, ab_b2_some]
    by_cases he : sv (Qg g0 (B 1) t) (rn (B 1) 2) = sv (Qg g0 (B 1) 0) (rn (B 1) 2)
    · obtain ⟨J2, B2, e2, a1, a2, a3⟩ := m_oneDay (J := J1) (B := B1) hM (t := t) (by omega) h1
      rw [if_pos he, e2, Option.bind_some, nI_1]
      refine ih (t + 1) k J2 B2 B0 (by omega) ⟨hT.1.trans a1, hT.2⟩ a2 (fun k p q => (a3 k p q).trans (hB k p q)) ⟨by omega, fun u hu k hk hw => ?_⟩
      by_cases e : u = t
      · subst e
        have := (sv_eq c2).mp he k hk
        rw [hw.1, hw.2] at this
        exact absurd this (by decide)
      · exact hN.2 u (by omega) k hk hw
    · rw [if_neg he]
      refine ⟨t, J1, B1, rfl, hT, h1, hB, hN, Or.inr ?_⟩
      apply Classical.byContradiction
      intro hno
      apply he
      refine (sv_eq c2).mpr (fun k hk => ?_)
      cases h0 : Qg g0 (B 1) 0 k
      · cases ht : Qg g0 (B 1) t k
        · rfl
        · exact absurd ⟨k, hk, ht, h0⟩ hno
      · exact Qg_mono hM.1 (by omega) t h0
theorem m_first_100 {P Q : Nat → Bool} {c g y N : Nat} (hc : c ≤ 8) (hg : g < c) (hP : P g = true ∧ Q g = false) (hl : ∀ k, k < g → ¬ (P k = true ∧ Q k = false)) (w : ab_W) (hy : y ≤ 1) : ∀ (m j k : Nat), j + m = g → sX10_first_100 (k + m + 1) (nI y) (nI N) (sv P c &&& (sv Q c ^^^ (-1))) (nI j) w = some (if y = 0 then nI N else nI g, w) := by
  intro m
  induction m with
  | zero =>
    intro j k hj
    have : j = g := by omega
    subst this
    rw [sX10_first_100, if_neg (fun e => (sv_bit hc hg).mp e hP)]
    rcases (show y = 0 ∨ y = 1 by omega) with rfl | rfl
    · rw [if_pos (by decide), if_pos rfl]
    · rw [if_neg (by decide), if_neg (by decide)]
  | succ m ih =>
    intro j k hj
    rw [show k + (m + 1) + 1 = (k + m + 1) + 1 by omega, sX10_first_100, if_pos ((sv_bit hc (by omega)).mpr (hl j (by omega))), nI_1]
    exact ih (j + 1) k (by omega)
end FI
section OP
variable {n : Nat} {I J : Nat → Int32} {A B : Nat → Nat → Int32} {tp : Nat} {g0 g1 : Int32 → Int32 → Int32 → Nat} {r : Nat → Int32}
theorem c_dtg_2 {rs : Bool} {s f0 d dy : Nat} (hf : f0 ≤ 999) (hs : s ≤ 999) (hdy : dy ≤ 9999) : ∀ (m t k : Nat) (I : Nat → Int32), t + m = 61 → FS I true rs s (fg true rs s dy f0 t) d → (∀ u, u < t → fg true rs s dy f0 u < 100) → ∃ D I', sX7_daysToGone_2 (k + m + 1) 55 (nI dy) (nI t) (cW I A tp) = some (nI D, cW I' A tp) ∧ cK I A I' A ∧ D ≤ 61 ∧ (∀ u, u < D → fg true rs s dy f0 u < 100) ∧ (D = 61 ∨ 100 ≤ fg true rs s dy f0 D) := by
  intro m
  induction m with
  | zero =>
    intro t k I ht h hl
    have : t = 61 := by omega
    subst this
    exact ⟨61, I, by rw [sX7_daysToGone_2, if_pos (by decide)], cK.refl I A, by omega, hl, Or.inl rfl⟩
  | succ m ih =>
    intro t k I ht h hl
    have hle := fg_le (up := true) (rs := rs) (s := s) (d := dy) hf t
    rw [show k + (m + 1) + 1 = (k + m + 1) + 1 by omega, sX7_daysToGone_2, if_neg (show ¬ (60 : Int32) < nI t from nI_nlt (a := 60) (by omega) (by decide)), c_R55_4, Option.bind_some, c_I56_0, Option.bind_some, h.1]
    by_cases h1 : fg true rs s dy f0 t < 100
    · have e1 := c_go (A := A) (tp := tp) (e := dy + t) h (fg_le hf t) hs (by omega)
      rw [← fg] at e1
      obtain ⟨h4, h5, h6, h7, h8⟩ := h
      obtain ⟨D, I', e2, hk, b1, b2, b3⟩ := ih (t + 1) k _ (by omega) (show FS (upd I 414 (nI (fg true rs s dy f0 (t + 1)))) true rs s (fg true rs s dy f0 (t + 1)) d from ⟨upd_same _ _ _, (upd_ne (by decide)).trans h5, (upd_ne (by decide)).trans h6, (upd_ne (by decide)).trans h7, (upd_ne (by decide)).trans h8⟩) (fun u hu => by
        by_cases e : u = t
        · subst e; exact h1
        · exact hl u (by omega))
      refine ⟨D, I', ?_, (show cK I A _ A from ⟨fun i hi => upd_ne (by omega), fun _ _ _ => rfl⟩).trans hk, b1, b2, b3⟩
      rw [if_pos (show nI (fg true rs s dy f0 t) < 100 from nI_lt (b := 100) h1 (by decide)), Option.bind_some, nI_add, e1, Option.bind_some, nI_1]
      exact e2
    · refine ⟨t, I, ?_, cK.refl I A, by omega, hl, Or.inr (by omega)⟩
      rw [if_neg (show ¬ nI (fg true rs s dy f0 t) < 100 from nI_nlt (b := 100) (by omega) (by omega))]
def cG (I : Nat → Int32) (A : Nat → Nat → Int32) (I' : Nat → Int32) (A' : Nat → Nat → Int32) : Prop := (∀ i, ¬ (410 ≤ i ∧ i ≤ 418) → I' i = I i) ∧ ∀ k, k ≠ 32 → k ≠ 35 → A' k = A k
theorem cG.cE {I I' : Nat → Int32} {A A' : Nat → Nat → Int32} (h : cG I A I' A') : cE I A I' A' := ⟨fun i hi => h.1 i (by unfold iJ at hi; omega), fun k hk => h.2 k (by unfold aJ at hk; omega) (by unfold aJ at hk; omega)⟩
theorem c_next_8 (hr : rowOk r) (hE : ∀ j, j < 8 → EC j I A r g0 g1) (h2 : I 2 = nI (rn r 2)) : ∀ (m j k gb gn : Nat) (I1 : Nat → Int32) (A1 : Nat → Nat → Int32), j + m = rn r 2 → cG I A I1 A1 → I1 410 = nI gb → NG g0 r j gb → (gb = 61 ∨ (I1 411 = nI gn ∧ gn < j ∧ Nw g0 r gb gn ∧ ∀ k, k < gn → ¬ Nw g0 r gb k)) → ∃ gb gn I' A', sX7_findNextGone_8 (k + m + 1) 55 17 11 (nI j) (cW I1 A1 tp) = some (if 60 < gb then 0 else 1, cW I' A' tp) ∧ cG I A I' A' ∧ I' 410 = nI gb ∧ NG g0 r (rn r 2) gb ∧ (gb = 61 ∨ (I' 411 = nI gn ∧ gn < rn r 2 ∧ Nw g0 r gb gn ∧ ∀ k, k < gn → ¬ Nw g0 r gb k)) := by
  obtain ⟨c1, c2⟩ := rn_c hr
  obtain ⟨d1, d2⟩ := rn_d hr
  intro m
  induction m with
  | zero =>
    intro j k gb gn I1 A1 hj hG h0 hN hg
    have : j = rn r 2 := by omega
    subst this
    refine ⟨gb, gn, I1, A1, ?_, hG, h0, hN, hg⟩
    have := hN.1
    rw [sX7_findNextGone_8, c_I17_4, Option.bind_some, hG.1 2 (by omega), h2, if_neg (nI_nlt (by omega) (by omega)), c_I55_0, Option.bind_some, h0]
    by_cases h60 : 60 < gb
    · rw [if_pos (show (60 : Int32) < nI gb from nI_lt (a := 60) h60 (by omega)), if_pos h60]; rfl
    · rw [if_neg (show ¬ (60 : Int32) < nI gb from nI_nlt (a := 60) (by omega) (by decide)), if_neg h60]; rfl
  | succ m ih =>
    intro j k gb gn I1 A1 hj hG h0 hN hg
    have hj8 : j < 8 := by omega
    have Ej := (hE j hj8).cong hj8 (fun i hi => hG.1 i (by omega)) hG.2
    have q0 := rn_p hr (j := j) (q := 0) hj8 (by decide)
    have q3 := rn_p hr (j := j) (q := 3) hj8 (by decide)
    have q4 := rn_p hr (j := j) (q := 4) hj8 (by decide)
    have q5 := rn_p hr (j := j) (q := 5) hj8 (by decide)
    simp only [List.getD_cons_zero, List.getD_cons_succ] at q0 q3 q4 q5
    have gb61 := hN.1
    have hno : (∀ t, ¬ Nw g0 r t j) → NG g0 r (j + 1) gb ∧ (gb = 61 ∨ (I1 411 = nI gn ∧ gn < j + 1 ∧ Nw g0 r gb gn ∧ ∀ k, k < gn → ¬ Nw g0 r gb k)) := fun h => ⟨⟨hN.1, fun t ht k hk => by
      by_cases e : k = j
      · subst e; exact h t
      · exact hN.2 t ht k (by omega)⟩, hg.imp id (fun ⟨a, b, c⟩ => ⟨a, by omega, c⟩)⟩
    rw [show k + (m + 1) + 1 = (k + m + 1) + 1 by omega, sX7_findNextGone_8, c_I17_4, Option.bind_some, hG.1 2 (by omega), h2, if_pos (nI_lt (by omega) (by omega)), c_R17_0, Option.bind_some, c_Q18 _ _ _ hj8, Option.bind_some, c_pI _ _ _ hj8 4 (by decide), Option.bind_some, Ej.2.2.1 4 (by decide), q4.1]
    by_cases hu : rn r (8 + 6 * j + 4) = 1
    · rw [hu, if_neg (by decide), c_pI _ _ _ hj8 5 (by decide), Option.bind_some, Ej.2.2.1 5 (by decide), q5.1]
      by_cases hf : rn r (8 + 6 * j + 5) < 100
      · rw [if_pos (show nI (rn r (8 + 6 * j + 5)) < 100 from nI_lt (b := 100) hf (by decide))]
        obtain ⟨I2, A2, e2, k2, hF⟩ := c_follow (tp := tp) true Ej hj8
        have hs := str_le (kd := rn r (8 + 6 * j + 0)) (c := rn r (8 + 6 * j + 3)) (w := r 7) Ej.2.2.2.2.1 (by omega)
        obtain ⟨D, I3, e3, k3, b1, b2, b3⟩ := c_dtg_2 (A := A2) (tp := tp) (rs := decide (rn r (8 + 6 * j + 0) = 5)) (s := str g0 (rn r (8 + 6 * j + 0)) (rn r (8 + 6 * j + 3)) (r 7)) (f0 := rn r (8 + 6 * j + 5)) (dy := rn r 0) q5.2 (by omega) d2 61 0 938 I2 rfl hF (fun u hu => absurd hu (by omega))
        have ef : ∀ t, fg true (decide (rn r (8 + 6 * j + 0) = 5)) (str g0 (rn r (8 + 6 * j + 0)) (rn r (8 + 6 * j + 3)) (r 7)) (rn r 0) (rn r (8 + 6 * j + 5)) t = fT g0 r j t := fun t => by rw [fT, hu]; rfl
        have q00 : Qg g0 r 0 j = false := by
          rw [Qg, Bool.and_eq_false_iff]
          refine Or.inr ?_
          rw [decide_eq_false_iff_not]
          have : fT g0 r j 0 = rn r (8 + 6 * j + 5) := rfl
          omega
        have nwD : ∀ t, Nw g0 r t j ↔ 100 ≤ fT g0 r j t := fun t => by
          rw [Nw, Qg, hu]
          simp [q00]
        have hG3 : cG I A I3 A2 := ⟨fun i hi => by rw [k3.1 i (by omega), k2.1 i (by omega)]; exact hG.1 i hi, fun k a b => by rw [k2.2 k a b]; exact hG.2 k a b⟩
        have h03 : I3 410 = nI gb := by rw [k3.1 410 (by omega), k2.1 410 (by omega)]; exact h0
        rw [show sX7_follow 55 17 11 (22 + j) 1 (cW I1 A1 tp) = _ from e2, Option.bind_some, c_I17_5, Option.bind_some, k2.1 0 (by omega), Ej.1, d1, sX7_daysToGone, if_pos (c_is55 I2 A2 tp), show sX7_daysToGone_2 1000 55 (nI (rn r 0)) 0 (cW I2 A2 tp) = _ from e3, ab_b2_some, c_I55_0, Option.bind_some, h03]
        by_cases hlt : D < gb
        · rw [if_pos (nI_lt hlt (by omega)), c_P55_0, Option.bind_some, c_P55_1, Option.bind_some, sX7_findNextGone_81, nI_1]
          refine ih (j + 1) k D j _ _ (by omega) ⟨fun i hi => by rw [upd_ne (by omega), upd_ne (by omega)]; exact hG3.1 i hi, hG3.2⟩ (by rw [upd_ne (by decide), upd_same]) ⟨b1, fun t ht k hk => ?_⟩ (Or.inr ⟨upd_same _ _ _, by omega, ?_, fun k hk => hN.2 D hlt k hk⟩)
          · by_cases e : k = j
            · subst e
              rw [nwD]
              have := b2 t ht
              rw [ef] at this
              omega
            · exact hN.2 t (by omega) k (by omega)
          · rw [nwD, ← ef]
            rcases b3 with b3 | b3
            · omega
            · exact b3
        · rw [if_neg (nI_nlt (by omega) (by omega)), sX7_findNextGone_81, nI_1]
          refine ih (j + 1) k gb gn _ _ (by omega) hG3 h03 ⟨hN.1, fun t ht k hk => ?_⟩ (hg.imp id (fun ⟨a, b, c⟩ => ⟨?_, by omega, c⟩))
          · by_cases e : k = j
            · subst e
              rw [nwD]
              have := b2 t (by omega)
              rw [ef] at this
              omega
            · exact hN.2 t ht k (by omega)
          · rw [k3.1 411 (by omega), k2.1 411 (by omega)]; exact a
      · rw [if_neg (show ¬ nI (rn r (8 + 6 * j + 5)) < 100 from nI_nlt (b := 100) (by omega) (by omega)), sX7_findNextGone_81, nI_1]
        obtain ⟨a, b⟩ := hno (fun t hw => by
          have : Qg g0 r 0 j = true := by
            rw [Qg, hu]
            simp only [decide_true, Bool.true_and, decide_eq_true_eq]
            have : fT g0 r j 0 = rn r (8 + 6 * j + 5) := rfl
            omega
          rw [hw.2] at this
          exact absurd this (by decide))
        exact ih (j + 1) k gb gn I1 A1 (by omega) hG h0 a b
    · rw [show rn r (8 + 6 * j + 4) = 0 by omega, if_pos (by decide), sX7_findNextGone_81, nI_1]
      obtain ⟨a, b⟩ := hno (fun t hw => by
        have := hw.1
        rw [Qg, Bool.and_eq_true, decide_eq_true_eq] at this
        exact hu this.1)
      exact ih (j + 1) k gb gn I1 A1 (by omega) hG h0 a b
theorem op_first (h : RR n I A J B) (x : Int32) : OK n (sX9_first 0 x (cW I A tp)) (sX10_first 0 x (mW J B)) := by
  by_cases hx : inR x 0 1
  · have hx2 := hx
    obtain ⟨y, -, y1, rfl⟩ := hx
    obtain ⟨g0, g1, hM, hC⟩ := h.laws
    obtain ⟨c1, c2⟩ := rn_c hM.1
    obtain ⟨B0, e1, t1⟩ := m_th0 (J := J) (B := B)
    have eset := m_setT (J1 := J) (B1 := B) hM (t := 0) (rt_0 hM.1).symm
    obtain ⟨N, J2, B2, e2, tT, tr, tB, tN, tw⟩ := m_first_36 (J := J) (B := B) (x := nI y) hM 61 0 938 J B0 B0 rfl t1 (by rw [rt_0 hM.1]; exact t1.2.1) (fun _ _ _ => rfl) ⟨by omega, fun t ht => absurd ht (by omega)⟩
    obtain ⟨B3, e3, t3⟩ := m_thb tT (mJ.refl J2) tr tB (rt_far226 hM.1)
    obtain ⟨gb, gn, I', A', f1, f2, f3, f4, f5⟩ := c_next_8 (tp := tp) hM.1 hC (by rw [h.at (i := 2) (by unfold okI; omega)]; exact c1) (rn (B 1) 2) 0 (999 - rn (B 1) 2) 61 0 (upd I 410 61) A (by omega) ⟨fun i hi => upd_ne (by omega), fun _ _ _ => rfl⟩ (upd_same _ _ _) ⟨by omega, fun t ht k hk => absurd hk (by omega)⟩ (Or.inl rfl)
    rw [show 999 - rn (B 1) 2 + rn (B 1) 2 + 1 = 1000 by omega] at f1
    have hgN : gb = N := by
      rcases Nat.lt_trichotomy gb N with hlt | he | hlt
      · rcases f5 with f5 | ⟨-, a, b, -⟩
        · have := tN.1; omega
        · exact absurd b (tN.2 gb hlt gn a)
      · exact he
      · rcases tw with tw | ⟨k, a, b⟩
        · have := f4.1; omega
        · exact absurd b (f4.2 N hlt k a)
    subst hgN
    have ec : sX9_first 0 (nI y) (cW I A tp) = ab_b2 (some (if 60 < gb then 0 else 1, cW I' A' tp)) fun v8 w9 => if v8 = 0 then ab_b2 (sX9_fail 0 2 w9) fun v10 w11 => some (v10, w11) else if nI y = 0 then (ab_getR w9 9 0 5).bind fun v12 => (ab_getI w9 7 v12 0).bind fun v13 => some (v13, w9) else (ab_getR w9 9 0 5).bind fun v14 => (ab_getI w9 7 v14 1).bind fun v15 => some (v15, w9) := by
      rw [sX9_first, if_pos (c_is0 I A tp), cT_0_1 hx2, ab_b2_some, if_neg (by decide), c_R0_5, Option.bind_some, c_R0_3, Option.bind_some, c_R0_2, Option.bind_some, sX7_findNextGone, if_pos (c_is55 I A tp), c_P55_0, Option.bind_some, show sX7_findNextGone_8 1000 55 17 11 0 (cW (upd I 410 61) A tp) = _ from f1]
    have em : sX10_first 0 (nI y) (mW J B) = if (60 : Int32) < nI gb then ab_b2 (sX10_errs 0 (-1000000002) (mW J2 B3)) fun v6 w7 => some (v6, w7) else sX10_first_100 1000 (nI y) (nI gb) (sv (Qg g0 (B 1) gb) (rn (B 1) 2) &&& (sv (Qg g0 (B 1) 0) (rn (B 1) 2) ^^^ (-1))) 0 (mW J2 B3) := by
      rw [sX10_first, if_pos (m_is J B), mT_0_1 hx2, ab_b2_some, if_neg (by decide), eset, ab_b2_some, m_R0, Option.bind_some, m_R2, Option.bind_some, e1, Option.bind_some, show sX10_first_36 1000 0 (nI y) (sv (Qg g0 (B 1) 0) (rn (B 1) 2)) 0 (mW J B0) = _ from e2, sX10_first_61, m_setT hM tr, ab_b2_some, m_R2, Option.bind_some, m_R0, Option.bind_some, e3, Option.bind_some]
    rw [ec, em, ab_b2_some]
    by_cases h60 : 60 < gb
    · rw [if_pos h60, if_pos rfl, if_pos (show (60 : Int32) < nI gb from nI_lt (a := 60) h60 (by have := f4.1; omega))]
      exact ok_err (tp := tp) (-1000000002) 2 (by decide) (h.congr f2.cE t3.mE) rfl rfl
    · rw [if_neg h60, if_neg (by decide), if_neg (show ¬ (60 : Int32) < nI gb from nI_nlt (a := 60) (by omega) (by decide))]
      obtain ⟨a1, a2, a3, a4⟩ := f5.resolve_left (by omega)
      have e100 := m_first_100 (P := Qg g0 (B 1) gb) (Q := Qg g0 (B 1) 0) (c := rn (B 1) 2) (g := gn) (y := y) (N := gb) c2 a2 a3 a4 (mW J2 B3) y1 gn 0 (999 - gn) (by omega)
      rw [show 999 - gn + gn + 1 = 1000 by omega] at e100
      rw [show sX10_first_100 1000 (nI y) (nI gb) (sv (Qg g0 (B 1) gb) (rn (B 1) 2) &&& (sv (Qg g0 (B 1) 0) (rn (B 1) 2) ^^^ (-1))) 0 (mW J2 B3) = _ from e100]
      rcases (show y = 0 ∨ y = 1 by omega) with rfl | rfl
      · refine ok_same (tp := tp) (nI gb) h ?_ rfl f2.cE t3.mE
        rw [if_pos (by decide), c_R0_5, Option.bind_some, c_I55_0, Option.bind_some, f3]
      · refine ok_same (tp := tp) (nI gn) h ?_ rfl f2.cE t3.mE
        rw [if_neg (by decide), c_R0_5, Option.bind_some, c_I55_1, Option.bind_some, a1]
  · refine ok_err (tp := tp) (-1000000001) 1 (by decide) h ?_ ?_
    · rw [sX9_first, if_pos (c_is0 I A tp), cF_0_1 hx]
      rfl
    · rw [sX10_first, if_pos (m_is J B), mF_0_1 hx]
      rfl
end OP
