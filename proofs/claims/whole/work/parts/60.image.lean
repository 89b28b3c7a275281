section OP
variable {n : Nat} {I J : Nat → Int32} {A B : Nat → Nat → Int32} {tp : Nat}
/-! the reference's rows are copied whole -/
def mv (f g : Nat → Int32) (j : Nat) : Nat → Int32 := fun i => if i < j then f i else g i
theorem mv_0 (f g : Nat → Int32) : mv f g 0 = g := by funext i; simp [mv]
theorem mv_at {f g : Nat → Int32} {j i : Nat} (h : i < j) : mv f g j i = f i := if_pos h
theorem mv_step (f g : Nat → Int32) (j : Nat) : upd (mv f g j) j (f j) = mv f g (j + 1) := by
  funext i
  by_cases h : i = j
  · subst h; rw [upd_same, mv, if_pos (by omega)]
  · rw [upd_ne h, mv, mv]
    by_cases h2 : i < j
    · rw [if_pos h2, if_pos (by omega)]
    · rw [if_neg h2, if_neg (by omega)]
theorem m_Ag (J : Nat → Int32) (B : Nat → Nat → Int32) {a j : Nat} (ha : 1 ≤ a ∧ a ≤ 4) (h : j < 226) : ab_ald (mW J B) a (nI j) = some (B a j) := by
  rcases (show a = 1 ∨ a = 2 ∨ a = 3 ∨ a = 4 by omega) with rfl | rfl | rfl | rfl
  · exact m_A1 J B h
  · exact m_A2 J B h
  · exact m_A3 J B h
  · exact m_A4 J B h
theorem m_Sg (J : Nat → Int32) (B : Nat → Nat → Int32) {a j : Nat} (v : Int32) (ha : 1 ≤ a ∧ a ≤ 4) (h : j < 226) : ab_ast (mW J B) a (nI j) v = some (mW J (up2 B a j v)) := by
  rcases (show a = 1 ∨ a = 2 ∨ a = 3 ∨ a = 4 by omega) with rfl | rfl | rfl | rfl
  · exact m_S1 J B v h
  · exact m_S2 J B v h
  · exact m_S3 J B v h
  · exact m_S4 J B v h
theorem m_moveAll_2 {a b : Nat} (ha : 1 ≤ a ∧ a ≤ 4) (hb : 1 ≤ b ∧ b ≤ 4) (hab : a ≠ b) : ∀ (m j k : Nat), j + m = 226 → sX10_moveAll_2 (k + m + 1) a b (nI j) (mW J (upB B b (mv (B a) (B b) j))) = some (mW J (upB B b (mv (B a) (B b) 226))) := by
  intro m
  induction m with
  | zero =>
    intro j k hj
    have : j = 226 := by omega
    subst this
    rw [sX10_moveAll_2, if_neg (by decide)]
  | succ m ih =>
    intro j k hj
    rw [show k + (m + 1) + 1 = (k + m + 1) + 1 by omega, sX10_moveAll_2, if_pos (show nI j < 226 from nI_lt (b := 226) (by omega) (by decide)), m_Ag _ _ ha (by omega), Option.bind_some, m_Sg _ _ _ hb (by omega), Option.bind_some, upB_up2, upB_ne hab, mv_step, nI_1]
    exact ih (j + 1) k (by omega)
theorem m_moveAll {a b : Nat} (ha : 1 ≤ a ∧ a ≤ 4) (hb : 1 ≤ b ∧ b ≤ 4) (hab : a ≠ b) : sX10_moveAll 0 a b (mW J B) = some (mW J (upB B b (mv (B a) (B b) 226))) := by
  rw [sX10_moveAll, if_pos (m_is J B)]
  have := m_moveAll_2 (J := J) (B := B) ha hb hab 226 0 773 rfl
  rw [mv_0, upB_id] at this
  exact this
theorem LM.congr {u : Nat} {x : Int32} {t t' : Nat → Int32} {g : Int32 → Int32 → Int32 → Nat} (h : LM u x t g) (ht : ∀ j, j < 50 → t' j = t j) : LM u x t' g :=
  fun J B a b c h1 h2 => h J B a b c h1 (fun j hj => (h2 j hj).trans (ht j hj))
theorem LC.congr {u : Nat} {x : Int32} {t t' : Nat → Int32} {g : Int32 → Int32 → Int32 → Nat} (h : LC u x t g) (ht : ∀ j, j < 50 → t' j = t j) : LC u x t' g :=
  fun I A tp a b c h1 h2 => h I A tp a b c h1 (fun j hj => (h2 j hj).trans (ht j hj))
theorem DR.copy {I I' t w s0 s1 r t' w' s0' s1' r' : Nat → Int32} (h : DR I t w s0 s1 r) (hI : ∀ i, i < 56 → I' i = I i) (ht : ∀ j, j < 50 → t' j = t j) (hw : ∀ j, j < 20 → w' j = w j) (h0 : ∀ j, j < 50 → s0' j = s0 j) (h1 : ∀ j, j < 50 → s1' j = s1 j) (hr : ∀ i, i < 226 → r' i = r i) : DR I' t' w' s0' s1' r' := by
  obtain ⟨d1, d2, d3, d4, ⟨g, g1, g2, g3⟩, ⟨k, k1, k2, k3⟩⟩ := h
  refine ⟨fun i hi => ?_, fun j hj => ?_, fun j hj => ?_, fun i hi h1 => ?_, ⟨g, g1, ?_, ?_⟩, ⟨k, k1, ?_, ?_⟩⟩
  · have := hi.1
    rw [hI i hi.1, hr i (by omega)]; exact d1 i hi
  · rw [ht j hj, hr _ (by omega)]; exact d2 j hj
  · rw [hw j hj, hr _ (by omega)]; exact d3 j hj
  · have := hi.1
    rw [hr i (by omega)]; exact d4 i hi h1
  · rw [hr 5 (by decide)]; exact g2.congr (fun j hj => hr _ (by omega))
  · rw [hI 5 (by decide)]; exact g3.congr h0
  · rw [hr 6 (by decide)]; exact k2.congr (fun j hj => hr _ (by omega))
  · rw [hI 6 (by decide)]; exact k3.congr h1
theorem cpy_at {f g : Nat → Int32} {n j : Nat} (h : j < n) : va_cpy f g 0 0 n j = f j := by
  rw [va_cpy, if_pos (by omega)]
  congr 1
  omega
/-! the desk kept -/
def cpK (I : Nat → Int32) (j : Nat) : Nat → Int32 := fun i => if 208 ≤ i ∧ i < 208 + 6 * j then I (i - 200) else I i
theorem cpK_step (I : Nat → Int32) {j : Nat} (hj : j < 8) : upd (upd (upd (upd (upd (upd (cpK I j) (208 + 6 * j + 0) (I (8 + 6 * j + 0))) (208 + 6 * j + 1) (I (8 + 6 * j + 1))) (208 + 6 * j + 2) (I (8 + 6 * j + 2))) (208 + 6 * j + 3) (I (8 + 6 * j + 3))) (208 + 6 * j + 4) (I (8 + 6 * j + 4))) (208 + 6 * j + 5) (I (8 + 6 * j + 5)) = cpK I (j + 1) := by
  funext i
  by_cases h : 208 + 6 * j ≤ i ∧ i < 208 + 6 * j + 6
  · have hr : cpK I (j + 1) i = I (i - 200) := by rw [cpK, if_pos (by omega)]
    rw [hr]
    rcases (show i = 208 + 6 * j + 0 ∨ i = 208 + 6 * j + 1 ∨ i = 208 + 6 * j + 2 ∨ i = 208 + 6 * j + 3 ∨ i = 208 + 6 * j + 4 ∨ i = 208 + 6 * j + 5 by omega) with e | e | e | e | e | e <;> subst e <;> simp (disch := omega) only [upd_ne, upd_same] <;> exact congrArg I (by omega)
  · simp (disch := omega) only [upd_ne]
    rw [cpK, cpK]
    by_cases h2 : 208 ≤ i ∧ i < 208 + 6 * j
    · rw [if_pos h2, if_pos (by omega)]
    · rw [if_neg h2, if_neg (by omega)]
theorem cpK_src (I : Nat → Int32) {j q : Nat} (hj : j < 8) (hq : q < 6) (t : Nat) (ht : t ≤ j) : cpK I t (8 + 6 * j + q) = I (8 + 6 * j + q) := by rw [cpK, if_neg (by omega)]
theorem cpK_one {I : Nat → Int32} {j : Nat} (hj : j < 8) (hu : I (8 + 6 * j + 4) = 0 ∨ I (8 + 6 * j + 4) = 1) : sX3_copyFrom (41 + j) (22 + j) (cW (cpK I j) A tp) = some (cW (cpK I (j + 1)) A tp) := by
  rw [sX3_copyFrom, if_pos (c_kis _ A tp hj)]
  simp (disch := omega) only [c_pI, c_kP, ↓reduceIte, Option.bind_some, ab_b2_some, Option.some.injEq, upd_ne, cpK_src]
  rw [c_kZ _ A tp hj hu]
  simp (disch := omega) only [c_pI, c_kP, ↓reduceIte, Option.bind_some, ab_b2_some, Option.some.injEq, upd_ne, cpK_src]
  rw [cpK_step I hj]
theorem cpK_all (I : Nat → Int32) (A : Nat → Nat → Int32) (tp : Nat) : sX0_copyFrom_31 1000 36 17 0 (cW I A tp) = some (cW (upd (upd (upd (upd (upd (upd (upd (upd I 205 (I 5)) 206 (I 6)) 202 (I 2)) 200 (I 0)) 207 (I 7)) 203 (I 3)) 204 (I 4)) 201 (I 1)) (upB (upB (upB (upB A 50 (va_cpy (A 31) (A 50) 0 0 50)) 53 (va_cpy (A 34) (A 53) 0 0 50)) 38 (va_cpy (A 19) (A 38) 0 0 50)) 40 (va_cpy (A 21) (A 40) 0 0 20)) tp) := by
  have y0 : ∀ (I : Nat → Int32) (A : Nat → Nat → Int32), sX2_copyFrom 49 30 (cW I A tp) = some (cW (upd I 205 (I 5)) (upB A 50 (va_cpy (A 31) (A 50) 0 0 50)) tp) := fun I A => by
    rw [sX2_copyFrom, if_pos (c_is49 I A tp), c_R30_0, Option.bind_some, c_R49_0, Option.bind_some, show ab_cpy (cW I A tp) 31 0 50 0 50 = some (cW I (upB A 50 (va_cpy (A 31) (A 50) 0 0 50)) tp) from rfl, Option.bind_some, c_I30_2, Option.bind_some, c_P49_2, Option.bind_some]
  have y1 : ∀ (I : Nat → Int32) (A : Nat → Nat → Int32), sX2_copyFrom 52 33 (cW I A tp) = some (cW (upd I 206 (I 6)) (upB A 53 (va_cpy (A 34) (A 53) 0 0 50)) tp) := fun I A => by
    rw [sX2_copyFrom, if_pos (c_is52 I A tp), c_R33_0, Option.bind_some, c_R52_0, Option.bind_some, show ab_cpy (cW I A tp) 34 0 53 0 50 = some (cW I (upB A 53 (va_cpy (A 34) (A 53) 0 0 50)) tp) from rfl, Option.bind_some, c_I33_2, Option.bind_some, c_P52_2, Option.bind_some]
  have z0 : ∀ (I : Nat → Int32) (A : Nat → Nat → Int32), ab_cpy (cW I A tp) 19 0 38 0 50 = some (cW I (upB A 38 (va_cpy (A 19) (A 38) 0 0 50)) tp) := fun I A => rfl
  have z1 : ∀ (I : Nat → Int32) (A : Nat → Nat → Int32), ab_cpy (cW I A tp) 21 0 40 0 20 = some (cW I (upB A 40 (va_cpy (A 21) (A 40) 0 0 20)) tp) := fun I A => rfl
  have q0 : ∀ (I : Nat → Int32) (A : Nat → Nat → Int32), ab_rald (cW I A tp) 2 39 0 = some 49 := fun I A => rfl
  have q1 : ∀ (I : Nat → Int32) (A : Nat → Nat → Int32), ab_rald (cW I A tp) 2 39 (0 + 1) = some 52 := fun I A => rfl
  have q2 : ∀ (I : Nat → Int32) (A : Nat → Nat → Int32), ab_rald (cW I A tp) 2 20 0 = some 30 := fun I A => rfl
  have q3 : ∀ (I : Nat → Int32) (A : Nat → Nat → Int32), ab_rald (cW I A tp) 2 20 (0 + 1) = some 33 := fun I A => rfl
  rw [show (1000 : Nat) = 997 + 1 + 1 + 1 from rfl, sX0_copyFrom_31, if_pos (by decide), c_R36_2, Option.bind_some, q0, Option.bind_some, c_R17_2, Option.bind_some, q2, Option.bind_some, y0, Option.bind_some, sX0_copyFrom_31, if_pos (by decide), c_R36_2, Option.bind_some, q1, Option.bind_some, c_R17_2, Option.bind_some, q3, Option.bind_some, y1, Option.bind_some, sX0_copyFrom_31, if_neg (by decide)]
  rw [c_R17_1, Option.bind_some, c_R36_1, Option.bind_some, z0, Option.bind_some, c_R17_3, Option.bind_some, c_R36_3, Option.bind_some, z1, Option.bind_some, c_I17_4, Option.bind_some, c_P36_4, Option.bind_some, c_I17_5, Option.bind_some, c_P36_5, Option.bind_some, c_I17_6, Option.bind_some, c_P36_6, Option.bind_some, c_I17_7, Option.bind_some, c_P36_7, Option.bind_some, c_I17_8, Option.bind_some, c_P36_8, Option.bind_some, c_I17_9, Option.bind_some, c_P36_9, Option.bind_some]
  simp only [upd_ne (show 6 ≠ 205 by decide), upd_ne (show 2 ≠ 205 by decide), upd_ne (show 2 ≠ 206 by decide), upd_ne (show 0 ≠ 205 by decide), upd_ne (show 0 ≠ 206 by decide), upd_ne (show 0 ≠ 202 by decide), upd_ne (show 7 ≠ 205 by decide), upd_ne (show 7 ≠ 206 by decide), upd_ne (show 7 ≠ 202 by decide), upd_ne (show 7 ≠ 200 by decide), upd_ne (show 3 ≠ 205 by decide), upd_ne (show 3 ≠ 206 by decide), upd_ne (show 3 ≠ 202 by decide), upd_ne (show 3 ≠ 200 by decide), upd_ne (show 3 ≠ 207 by decide), upd_ne (show 4 ≠ 205 by decide), upd_ne (show 4 ≠ 206 by decide), upd_ne (show 4 ≠ 202 by decide), upd_ne (show 4 ≠ 200 by decide), upd_ne (show 4 ≠ 207 by decide), upd_ne (show 4 ≠ 203 by decide), upd_ne (show 1 ≠ 205 by decide), upd_ne (show 1 ≠ 206 by decide), upd_ne (show 1 ≠ 202 by decide), upd_ne (show 1 ≠ 200 by decide), upd_ne (show 1 ≠ 207 by decide), upd_ne (show 1 ≠ 203 by decide), upd_ne (show 1 ≠ 204 by decide)]
  rfl
theorem cpK_2 {I : Nat → Int32} (hu : ∀ j, j < 8 → I (8 + 6 * j + 4) = 0 ∨ I (8 + 6 * j + 4) = 1) : ∀ (m j k : Nat), j + m = 8 → sX0_copyFrom_2 (k + m + 1) 36 17 (nI j) (cW (cpK I j) A tp) = sX0_copyFrom_31 1000 36 17 0 (cW (cpK I 8) A tp) := by
  intro m
  induction m with
  | zero =>
    intro j k hj
    have : j = 8 := by omega
    subst this
    rw [sX0_copyFrom_2, if_neg (by decide)]
  | succ m ih =>
    intro j k hj
    rw [show k + (m + 1) + 1 = (k + m + 1) + 1 by omega, sX0_copyFrom_2, if_pos (show nI j < 8 from nI_lt (b := 8) (by omega) (by decide)), c_R36_0, Option.bind_some, c_Q37 _ A tp (by omega), Option.bind_some, c_R17_0, Option.bind_some, c_Q18 _ A tp (by omega), Option.bind_some, cpK_one (by omega) (hu j (by omega)), Option.bind_some, nI_1]
    exact ih (j + 1) k (by omega)
theorem cpK_copy (hu : ∀ j, j < 8 → I (8 + 6 * j + 4) = 0 ∨ I (8 + 6 * j + 4) = 1) : ∃ I' A', sX0_copyFrom 36 17 (cW I A tp) = some (cW I' A' tp) ∧ (∀ i, i < 56 → I' (200 + i) = I (i)) ∧ (∀ i, ¬ (200 ≤ i ∧ i < 200 + 56) → I' i = I i) ∧ (∀ j, j < 50 → A' 38 j = A 19 j) ∧ (∀ j, j < 20 → A' 40 j = A 21 j) ∧ (∀ j, j < 50 → A' 50 j = A 31 j) ∧ (∀ j, j < 50 → A' 53 j = A 34 j) ∧ (∀ k, k ≠ 38 → k ≠ 40 → k ≠ 50 → k ≠ 53 → A' k = A k) := by
  have e := cpK_2 (A := A) (tp := tp) hu 8 0 991 rfl
  rw [cpK_all, show cpK I 0 = I from by funext i; rw [cpK, if_neg (by omega)]] at e
  have e2 := (show sX0_copyFrom 36 17 (cW I A tp) = sX0_copyFrom_2 (991 + 8 + 1) 36 17 (nI 0) (cW I A tp) from by rw [sX0_copyFrom, if_pos (c_is36 I A tp)]; rfl).trans e
  refine ⟨_, _, e2, fun i hi => ?_, fun i hi => ?_, fun j hj => ?_, fun j hj => ?_, fun j hj => ?_, fun j hj => ?_, fun k h1 h2 h3 h4 => ?_⟩
  · by_cases h8 : i < 8
    · rcases (show i = 0 ∨ i = 1 ∨ i = 2 ∨ i = 3 ∨ i = 4 ∨ i = 5 ∨ i = 6 ∨ i = 7 by omega) with rfl | rfl | rfl | rfl | rfl | rfl | rfl | rfl <;> rfl
    · simp (disch := omega) only [upd_ne]
      rw [cpK, if_pos (by omega)]
      try exact congrArg I (by omega)
  · simp (disch := omega) only [upd_ne]
    rw [cpK, if_neg (by omega)]
  · exact cpy_at (f := A 19) (g := A 38) hj
  · exact cpy_at (f := A 21) (g := A 40) hj
  · exact cpy_at (f := A 31) (g := A 50) hj
  · exact cpy_at (f := A 34) (g := A 53) hj
  · rw [upB_ne h2, upB_ne h1, upB_ne h4, upB_ne h3]
/-! the desk taken back -/
def cpR (I : Nat → Int32) (j : Nat) : Nat → Int32 := fun i => if 8 ≤ i ∧ i < 8 + 6 * j then I (200 + i) else I i
theorem cpR_step (I : Nat → Int32) {j : Nat} (hj : j < 8) : upd (upd (upd (upd (upd (upd (cpR I j) (8 + 6 * j + 0) (I (208 + 6 * j + 0))) (8 + 6 * j + 1) (I (208 + 6 * j + 1))) (8 + 6 * j + 2) (I (208 + 6 * j + 2))) (8 + 6 * j + 3) (I (208 + 6 * j + 3))) (8 + 6 * j + 4) (I (208 + 6 * j + 4))) (8 + 6 * j + 5) (I (208 + 6 * j + 5)) = cpR I (j + 1) := by
  funext i
  by_cases h : 8 + 6 * j ≤ i ∧ i < 8 + 6 * j + 6
  · have hr : cpR I (j + 1) i = I (200 + i) := by rw [cpR, if_pos (by omega)]
    rw [hr]
    rcases (show i = 8 + 6 * j + 0 ∨ i = 8 + 6 * j + 1 ∨ i = 8 + 6 * j + 2 ∨ i = 8 + 6 * j + 3 ∨ i = 8 + 6 * j + 4 ∨ i = 8 + 6 * j + 5 by omega) with e | e | e | e | e | e <;> subst e <;> simp (disch := omega) only [upd_ne, upd_same] <;> exact congrArg I (by omega)
  · simp (disch := omega) only [upd_ne]
    rw [cpR, cpR]
    by_cases h2 : 8 ≤ i ∧ i < 8 + 6 * j
    · rw [if_pos h2, if_pos (by omega)]
    · rw [if_neg h2, if_neg (by omega)]
theorem cpR_src (I : Nat → Int32) {j q : Nat} (hj : j < 8) (hq : q < 6) (t : Nat) (ht : t ≤ j) : cpR I t (208 + 6 * j + q) = I (208 + 6 * j + q) := by rw [cpR, if_neg (by omega)]
theorem cpR_one {I : Nat → Int32} {j : Nat} (hj : j < 8) (hu : I (208 + 6 * j + 4) = 0 ∨ I (208 + 6 * j + 4) = 1) : sX3_copyFrom (22 + j) (41 + j) (cW (cpR I j) A tp) = some (cW (cpR I (j + 1)) A tp) := by
  rw [sX3_copyFrom, if_pos (c_pis _ A tp hj)]
  simp (disch := omega) only [c_kI, c_pP, ↓reduceIte, Option.bind_some, ab_b2_some, Option.some.injEq, upd_ne, cpR_src]
  rw [c_pZ _ A tp hj hu]
  simp (disch := omega) only [c_kI, c_pP, ↓reduceIte, Option.bind_some, ab_b2_some, Option.some.injEq, upd_ne, cpR_src]
  rw [cpR_step I hj]
theorem cpR_all (I : Nat → Int32) (A : Nat → Nat → Int32) (tp : Nat) : sX0_copyFrom_31 1000 17 36 0 (cW I A tp) = some (cW (upd (upd (upd (upd (upd (upd (upd (upd I 5 (I 205)) 6 (I 206)) 2 (I 202)) 0 (I 200)) 7 (I 207)) 3 (I 203)) 4 (I 204)) 1 (I 201)) (upB (upB (upB (upB A 31 (va_cpy (A 50) (A 31) 0 0 50)) 34 (va_cpy (A 53) (A 34) 0 0 50)) 19 (va_cpy (A 38) (A 19) 0 0 50)) 21 (va_cpy (A 40) (A 21) 0 0 20)) tp) := by
  have y0 : ∀ (I : Nat → Int32) (A : Nat → Nat → Int32), sX2_copyFrom 30 49 (cW I A tp) = some (cW (upd I 5 (I 205)) (upB A 31 (va_cpy (A 50) (A 31) 0 0 50)) tp) := fun I A => by
    rw [sX2_copyFrom, if_pos (c_is30 I A tp), c_R49_0, Option.bind_some, c_R30_0, Option.bind_some, show ab_cpy (cW I A tp) 50 0 31 0 50 = some (cW I (upB A 31 (va_cpy (A 50) (A 31) 0 0 50)) tp) from rfl, Option.bind_some, c_I49_2, Option.bind_some, c_P30_2, Option.bind_some]
  have y1 : ∀ (I : Nat → Int32) (A : Nat → Nat → Int32), sX2_copyFrom 33 52 (cW I A tp) = some (cW (upd I 6 (I 206)) (upB A 34 (va_cpy (A 53) (A 34) 0 0 50)) tp) := fun I A => by
    rw [sX2_copyFrom, if_pos (c_is33 I A tp), c_R52_0, Option.bind_some, c_R33_0, Option.bind_some, show ab_cpy (cW I A tp) 53 0 34 0 50 = some (cW I (upB A 34 (va_cpy (A 53) (A 34) 0 0 50)) tp) from rfl, Option.bind_some, c_I52_2, Option.bind_some, c_P33_2, Option.bind_some]
  have z0 : ∀ (I : Nat → Int32) (A : Nat → Nat → Int32), ab_cpy (cW I A tp) 38 0 19 0 50 = some (cW I (upB A 19 (va_cpy (A 38) (A 19) 0 0 50)) tp) := fun I A => rfl
  have z1 : ∀ (I : Nat → Int32) (A : Nat → Nat → Int32), ab_cpy (cW I A tp) 40 0 21 0 20 = some (cW I (upB A 21 (va_cpy (A 40) (A 21) 0 0 20)) tp) := fun I A => rfl
  have q0 : ∀ (I : Nat → Int32) (A : Nat → Nat → Int32), ab_rald (cW I A tp) 2 20 0 = some 30 := fun I A => rfl
  have q1 : ∀ (I : Nat → Int32) (A : Nat → Nat → Int32), ab_rald (cW I A tp) 2 20 (0 + 1) = some 33 := fun I A => rfl
  have q2 : ∀ (I : Nat → Int32) (A : Nat → Nat → Int32), ab_rald (cW I A tp) 2 39 0 = some 49 := fun I A => rfl
  have q3 : ∀ (I : Nat → Int32) (A : Nat → Nat → Int32), ab_rald (cW I A tp) 2 39 (0 + 1) = some 52 := fun I A => rfl
  rw [show (1000 : Nat) = 997 + 1 + 1 + 1 from rfl, sX0_copyFrom_31, if_pos (by decide), c_R17_2, Option.bind_some, q0, Option.bind_some, c_R36_2, Option.bind_some, q2, Option.bind_some, y0, Option.bind_some, sX0_copyFrom_31, if_pos (by decide), c_R17_2, Option.bind_some, q1, Option.bind_some, c_R36_2, Option.bind_some, q3, Option.bind_some, y1, Option.bind_some, sX0_copyFrom_31, if_neg (by decide)]
  rw [c_R36_1, Option.bind_some, c_R17_1, Option.bind_some, z0, Option.bind_some, c_R36_3, Option.bind_some, c_R17_3, Option.bind_some, z1, Option.bind_some, c_I36_4, Option.bind_some, c_P17_4, Option.bind_some, c_I36_5, Option.bind_some, c_P17_5, Option.bind_some, c_I36_6, Option.bind_some, c_P17_6, Option.bind_some, c_I36_7, Option.bind_some, c_P17_7, Option.bind_some, c_I36_8, Option.bind_some, c_P17_8, Option.bind_some, c_I36_9, Option.bind_some, c_P17_9, Option.bind_some]
  simp only [upd_ne (show 206 ≠ 5 by decide), upd_ne (show 202 ≠ 5 by decide), upd_ne (show 202 ≠ 6 by decide), upd_ne (show 200 ≠ 5 by decide), upd_ne (show 200 ≠ 6 by decide), upd_ne (show 200 ≠ 2 by decide), upd_ne (show 207 ≠ 5 by decide), upd_ne (show 207 ≠ 6 by decide), upd_ne (show 207 ≠ 2 by decide), upd_ne (show 207 ≠ 0 by decide), upd_ne (show 203 ≠ 5 by decide), upd_ne (show 203 ≠ 6 by decide), upd_ne (show 203 ≠ 2 by decide), upd_ne (show 203 ≠ 0 by decide), upd_ne (show 203 ≠ 7 by decide), upd_ne (show 204 ≠ 5 by decide), upd_ne (show 204 ≠ 6 by decide), upd_ne (show 204 ≠ 2 by decide), upd_ne (show 204 ≠ 0 by decide), upd_ne (show 204 ≠ 7 by decide), upd_ne (show 204 ≠ 3 by decide), upd_ne (show 201 ≠ 5 by decide), upd_ne (show 201 ≠ 6 by decide), upd_ne (show 201 ≠ 2 by decide), upd_ne (show 201 ≠ 0 by decide), upd_ne (show 201 ≠ 7 by decide), upd_ne (show 201 ≠ 3 by decide), upd_ne (show 201 ≠ 4 by decide)]
  rfl
theorem cpR_2 {I : Nat → Int32} (hu : ∀ j, j < 8 → I (208 + 6 * j + 4) = 0 ∨ I (208 + 6 * j + 4) = 1) : ∀ (m j k : Nat), j + m = 8 → sX0_copyFrom_2 (k + m + 1) 17 36 (nI j) (cW (cpR I j) A tp) = sX0_copyFrom_31 1000 17 36 0 (cW (cpR I 8) A tp) := by
  intro m
  induction m with
  | zero =>
    intro j k hj
    have : j = 8 := by omega
    subst this
    rw [sX0_copyFrom_2, if_neg (by decide)]
  | succ m ih =>
    intro j k hj
    rw [show k + (m + 1) + 1 = (k + m + 1) + 1 by omega, sX0_copyFrom_2, if_pos (show nI j < 8 from nI_lt (b := 8) (by omega) (by decide)), c_R17_0, Option.bind_some, c_Q18 _ A tp (by omega), Option.bind_some, c_R36_0, Option.bind_some, c_Q37 _ A tp (by omega), Option.bind_some, cpR_one (by omega) (hu j (by omega)), Option.bind_some, nI_1]
    exact ih (j + 1) k (by omega)
theorem cpR_copy (hu : ∀ j, j < 8 → I (208 + 6 * j + 4) = 0 ∨ I (208 + 6 * j + 4) = 1) : ∃ I' A', sX0_copyFrom 17 36 (cW I A tp) = some (cW I' A' tp) ∧ (∀ i, i < 56 → I' (i) = I (200 + i)) ∧ (∀ i, ¬ (0 ≤ i ∧ i < 0 + 56) → I' i = I i) ∧ (∀ j, j < 50 → A' 19 j = A 38 j) ∧ (∀ j, j < 20 → A' 21 j = A 40 j) ∧ (∀ j, j < 50 → A' 31 j = A 50 j) ∧ (∀ j, j < 50 → A' 34 j = A 53 j) ∧ (∀ k, k ≠ 19 → k ≠ 21 → k ≠ 31 → k ≠ 34 → A' k = A k) := by
  have e := cpR_2 (A := A) (tp := tp) hu 8 0 991 rfl
  rw [cpR_all, show cpR I 0 = I from by funext i; rw [cpR, if_neg (by omega)]] at e
  have e2 := (show sX0_copyFrom 17 36 (cW I A tp) = sX0_copyFrom_2 (991 + 8 + 1) 17 36 (nI 0) (cW I A tp) from by rw [sX0_copyFrom, if_pos (c_is17 I A tp)]; rfl).trans e
  refine ⟨_, _, e2, fun i hi => ?_, fun i hi => ?_, fun j hj => ?_, fun j hj => ?_, fun j hj => ?_, fun j hj => ?_, fun k h1 h2 h3 h4 => ?_⟩
  · by_cases h8 : i < 8
    · rcases (show i = 0 ∨ i = 1 ∨ i = 2 ∨ i = 3 ∨ i = 4 ∨ i = 5 ∨ i = 6 ∨ i = 7 by omega) with rfl | rfl | rfl | rfl | rfl | rfl | rfl | rfl <;> rfl
    · simp (disch := omega) only [upd_ne]
      rw [cpR, if_pos (by omega)]
      try exact congrArg I (by omega)
  · simp (disch := omega) only [upd_ne]
    rw [cpR, if_neg (by omega)]
  · exact cpy_at (f := A 38) (g := A 19) hj
  · exact cpy_at (f := A 40) (g := A 21) hj
  · exact cpy_at (f := A 50) (g := A 31) hj
  · exact cpy_at (f := A 53) (g := A 34) hj
  · rw [upB_ne h2, upB_ne h1, upB_ne h4, upB_ne h3]
theorem op_image (h : RR n I A J B) (hn : n < 512) : OK n (sX9_image 0 (cW I A tp)) (sX10_image 0 (mW J B)) := by
  obtain ⟨h1, h2, h3, h4, h5, k1, k2⟩ := h
  have h : RR n I A J B := ⟨h1, h2, h3, h4, h5, k1, k2⟩
  have hu : ∀ j, j < 8 → I (8 + 6 * j + 4) = 0 ∨ I (8 + 6 * j + 4) = 1 := by
    intro j hj
    obtain ⟨u, u1, -, uI⟩ := h.pv (q := 4) hj (by decide)
    simp only [List.getD_cons_zero, List.getD_cons_succ] at u1
    rcases (show u = 0 ∨ u = 1 by omega) with rfl | rfl
    · exact Or.inl uI
    · exact Or.inr uI
  obtain ⟨I', A', e, p1, p2, p3, p4, p5, p6, p7⟩ := cpK_copy (A := A) (tp := tp) hu
  have hk : ∃ k, k ≤ n ∧ J 5 = nI k := by
    rcases k2 with ⟨-, k2⟩ | ⟨-, ⟨k, -, k3, k4⟩, -⟩
    · exact ⟨0, by omega, k2⟩
    · exact ⟨k, k3, k4⟩
  obtain ⟨k, hk, ek⟩ := hk
  refine ⟨I 408 + 1, upd I' 408 (I 408 + 1), A', tp, upd (upd J 4 1) 5 (J 5 + 1), upB B 2 (mv (B 1) (B 2) 226), ?_, ?_, ?_⟩
  · rw [sX9_image, if_pos (c_is0 I A tp), c_R0_4, Option.bind_some, c_R0_3, Option.bind_some, e, Option.bind_some, c_I0_8, Option.bind_some, p2 408 (by omega), c_P0_8, Option.bind_some, c_I0_8, Option.bind_some, upd_same]
  · rw [sX10_image, if_pos (m_is J B), m_R0, Option.bind_some, m_R1, Option.bind_some, m_moveAll (by omega) (by omega) (by decide), Option.bind_some, m_P4 _ _ (Or.inr rfl), Option.bind_some, m_I5, Option.bind_some, m_P5, Option.bind_some, m_I5, Option.bind_some, k1]
    rfl
  · refine ⟨?_, ?_, fun s hs => ?_, ?_, ?_, ?_, Or.inr ⟨rfl, ⟨k + 1, by omega, by omega, ?_⟩, ?_⟩⟩
    · exact h1.copy (fun i hi => by rw [upd_ne (by omega), p2 i (by omega)]) (fun j hj => by rw [p7 19 (by decide) (by decide) (by decide) (by decide)]) (fun j hj => by rw [p7 21 (by decide) (by decide) (by decide) (by decide)]) (fun j hj => by rw [p7 31 (by decide) (by decide) (by decide) (by decide)]) (fun j hj => by rw [p7 34 (by decide) (by decide) (by decide) (by decide)]) (fun i hi => rfl)
    · rw [p7 1 (by decide) (by decide) (by decide) (by decide)]; exact h2
    · obtain ⟨g1, g2, g3, g4, g5⟩ := h3 s hs
      rw [upd_ne (by omega), upd_ne (by omega), p2 _ (by omega), p2 _ (by omega), p7 _ (by omega) (by omega) (by omega) (by omega)]
      exact ⟨g1, g2, g3, g4, g5⟩
    · rw [p7 12 (by decide) (by decide) (by decide) (by decide), p7 13 (by decide) (by decide) (by decide) (by decide)]; exact h4
    · rw [upd_ne (by omega), p2 _ (by omega), p7 64 (by decide) (by decide) (by decide) (by decide)]; exact h5
    · rw [upd_same, upd_same, k1]
    · rw [upd_same, ek, nI_1]
    · exact h1.copy (fun i hi => by rw [upd_ne (by omega), p1 i hi]) p3 p4 p5 p6 (fun i hi => mv_at hi)
theorem op_restore (h : RR n I A J B) (hn : n < 512) : OK n (sX9_restore 0 (cW I A tp)) (sX10_restore 0 (mW J B)) := by
  obtain ⟨h1, h2, h3, h4, h5, k1, k2⟩ := h
  rcases k2 with ⟨j4, j5⟩ | ⟨j4, ⟨k, k3, k4, ek⟩, hd⟩
  · refine ok_err (tp := tp) (-1000000002) 2 (by decide) ⟨h1, h2, h3, h4, h5, k1, Or.inl ⟨j4, j5⟩⟩ ?_ ?_
    · rw [sX9_restore, if_pos (c_is0 I A tp), c_I0_8, Option.bind_some, k1, j5]
      rfl
    · rw [sX10_restore, if_pos (m_is J B), m_I4, Option.bind_some, j4]
      rfl
  · have hu : ∀ j, j < 8 → I (208 + 6 * j + 4) = 0 ∨ I (208 + 6 * j + 4) = 1 := by
      intro j hj
      obtain ⟨u, u1, uB⟩ := hd.2.2.2.1 (8 + 6 * j + 4) (okP hj (by decide)) (by omega)
      have uI := (hd.1 (8 + 6 * j + 4) (okP hj (by decide))).trans uB
      rw [(bndP hj).2.2.2.2.1] at u1
      rw [show 208 + 6 * j + 4 = 200 + (8 + 6 * j + 4) by omega]
      rcases (show u = 0 ∨ u = 1 by omega) with rfl | rfl
      · exact Or.inl uI
      · exact Or.inr uI
    obtain ⟨I', A', e, p1, p2, p3, p4, p5, p6, p7⟩ := cpR_copy (A := A) (tp := tp) hu
    refine ⟨I' 0, I', A', tp, J, upB B 1 (mv (B 2) (B 1) 226), ?_, ?_, ?_⟩
    · rw [sX9_restore, if_pos (c_is0 I A tp), c_I0_8, Option.bind_some, k1, ek, if_neg (nI_ne0 (by omega) (by omega)), c_R0_3, Option.bind_some, c_R0_4, Option.bind_some, e, Option.bind_some, c_R0_3, Option.bind_some, c_I17_5, Option.bind_some]
    · rw [sX10_restore, if_pos (m_is J B), m_I4, Option.bind_some, j4, if_neg (by decide), m_R1, Option.bind_some, m_R0, Option.bind_some, m_moveAll (by omega) (by omega) (by decide), Option.bind_some, p1 0 (by decide), show I (200 + 0) = B 2 0 from hd.1 0 (by unfold okI; omega)]
      rfl
    · refine ⟨?_, ?_, fun s hs => ?_, ?_, ?_, ?_, Or.inr ⟨j4, ⟨k, k3, by omega, ek⟩, ?_⟩⟩
      · exact hd.copy p1 p3 p4 p5 p6 (fun i hi => mv_at hi)
      · rw [p7 1 (by decide) (by decide) (by decide) (by decide)]; exact h2
      · obtain ⟨g1, g2, g3, g4, g5⟩ := h3 s hs
        rw [p2 _ (by omega), p2 _ (by omega), p7 _ (by omega) (by omega) (by omega) (by omega)]
        exact ⟨g1, g2, g3, g4, g5⟩
      · rw [p7 12 (by decide) (by decide) (by decide) (by decide), p7 13 (by decide) (by decide) (by decide) (by decide)]; exact h4
      · rw [p2 _ (by omega), p7 64 (by decide) (by decide) (by decide) (by decide)]; exact h5
      · rw [p2 _ (by omega)]; exact k1
      · exact hd.copy (fun i hi => by rw [p2 _ (by omega)]) (fun j hj => by rw [p7 38 (by decide) (by decide) (by decide) (by decide)]) (fun j hj => by rw [p7 40 (by decide) (by decide) (by decide) (by decide)]) (fun j hj => by rw [p7 50 (by decide) (by decide) (by decide) (by decide)]) (fun j hj => by rw [p7 53 (by decide) (by decide) (by decide) (by decide)]) (fun i hi => rfl)
end OP
