/-! ===== days: what becomes of one paper, and of the row ===== -/
def rn (r : Nat → Int32) (i : Nat) : Nat := (r i).toNatClampNeg
theorem rn_of {r : Nat → Int32} {i k : Nat} (h : r i = nI k) (hk : k < 2 ^ 31) : rn r i = k := by rw [rn, h, nI_clamp hk]
theorem rn_eq {r : Nat → Int32} (h : rowOk r) {i : Nat} (hi : okI i) (h1 : i ≠ 1) : r i = nI (rn r i) ∧ rn r i ≤ bnd i := by
  obtain ⟨k, k1, k2⟩ := h i hi h1
  have := bnd_lt i
  rw [rn_of k2 (by omega)]
  exact ⟨k2, k1⟩
theorem rn_p {r : Nat → Int32} (h : rowOk r) {j q : Nat} (hj : j < 8) (hq : q < 6) : r (8 + 6 * j + q) = nI (rn r (8 + 6 * j + q)) ∧ rn r (8 + 6 * j + q) ≤ [6, 9, 9999, 127, 1, 999].getD q 0 := by
  have := rn_eq h (okP hj hq) (by omega)
  rw [bEq hj q hq] at this
  exact this
theorem rn_c {r : Nat → Int32} (h : rowOk r) : r 2 = nI (rn r 2) ∧ rn r 2 ≤ 8 := rn_eq h (i := 2) (by unfold okI; omega) (by decide)
theorem rn_d {r : Nat → Int32} (h : rowOk r) : r 0 = nI (rn r 0) ∧ rn r 0 ≤ 9999 := rn_eq h (i := 0) (by unfold okI; omega) (by decide)
def sds (kd v w h : Nat) : Nat := if kd = 1 then 2 * v else if kd = 2 then v + w else if kd = 3 then v - h else if kd = 4 then 2 * v else if kd = 5 then v + w else if kd = 6 then v / 2 else v
theorem sds_le {kd v w h : Nat} (hv : v ≤ 99) (hw : w ≤ 8) : sds kd v w h ≤ 198 := by unfold sds; (repeat' split) <;> omega
def str (g0 : Int32 → Int32 → Int32 → Nat) (kd c : Nat) (w : Int32) : Nat := sds kd (g0 (nI (wid c)) (nI (thk c)) w) (wid c) (thk c)
theorem str_le {g0 : Int32 → Int32 → Int32 → Nat} {kd c : Nat} {w : Int32} (hg : gOk 0 g0) (hc : c < 128) : str g0 kd c w ≤ 198 := sds_le (hg _ _ _) (wid_rng hc).2
def fg (up rs : Bool) (s d far : Nat) : Nat → Nat
  | 0 => far
  | t + 1 => if (up && !(rs && (d + t) % 5 == 0)) = true then min 999 (fg up rs s d far t + s) else fg up rs s d far t
def dg (g1 : Int32 → Int32 → Int32 → Nat) (up rs : Bool) (s d far debt : Nat) : Nat → Nat
  | 0 => debt
  | t + 1 => if up = true then dg g1 up rs s d far debt t - g1 (nI (dg g1 up rs s d far debt t)) (nI (fg up rs s d far (t + 1))) (nI ((d + t) % 7)) else dg g1 up rs s d far debt t
theorem fg_le {up rs : Bool} {s d far : Nat} (h : far ≤ 999) : ∀ t, fg up rs s d far t ≤ 999 := by
  intro t
  induction t with
  | zero => exact h
  | succ t ih => rw [fg]; split <;> omega
theorem dg_le {g1 : Int32 → Int32 → Int32 → Nat} {up rs : Bool} {s d far debt : Nat} : ∀ t, dg g1 up rs s d far debt t ≤ debt := by
  intro t
  induction t with
  | zero => exact Nat.le_refl _
  | succ t ih => rw [dg]; split <;> omega
theorem fg_no {rs : Bool} {s d far : Nat} : ∀ t, fg false rs s d far t = far := by
  intro t
  induction t with
  | zero => rfl
  | succ t ih => rw [fg, if_neg (by simp)]; exact ih
theorem dg_no {g1 : Int32 → Int32 → Int32 → Nat} {rs : Bool} {s d far debt : Nat} : ∀ t, dg g1 false rs s d far debt t = debt := by
  intro t
  induction t with
  | zero => rfl
  | succ t ih => rw [dg, if_neg (by simp)]; exact ih
def fT (g0 : Int32 → Int32 → Int32 → Nat) (r : Nat → Int32) (k t : Nat) : Nat := fg (decide (rn r (8 + 6 * k + 4) = 1)) (decide (rn r (8 + 6 * k + 0) = 5)) (str g0 (rn r (8 + 6 * k + 0)) (rn r (8 + 6 * k + 3)) (r 7)) (rn r 0) (rn r (8 + 6 * k + 5)) t
def dT (g0 g1 : Int32 → Int32 → Int32 → Nat) (r : Nat → Int32) (k t : Nat) : Nat := dg g1 (decide (rn r (8 + 6 * k + 4) = 1)) (decide (rn r (8 + 6 * k + 0) = 5)) (str g0 (rn r (8 + 6 * k + 0)) (rn r (8 + 6 * k + 3)) (r 7)) (rn r 0) (rn r (8 + 6 * k + 5)) (rn r (8 + 6 * k + 2)) t
def rt (g0 g1 : Int32 → Int32 → Int32 → Nat) (r : Nat → Int32) (t j : Nat) : Nat → Int32 := fun i =>
  if i = 0 then nI (rn r 0 + t) else if 8 ≤ i ∧ i < 8 + 6 * rn r 2 ∧ i % 6 = 1 then nI (fT g0 r ((i - 8) / 6) (if (i - 8) / 6 < j then t + 1 else t)) else
  if 8 ≤ i ∧ i < 8 + 6 * rn r 2 ∧ i % 6 = 4 then nI (dT g0 g1 r ((i - 8) / 6) (if (i - 8) / 6 < j then t + 1 else t)) else r i
section RT
variable {g0 g1 : Int32 → Int32 → Int32 → Nat} {r : Nat → Int32}
theorem fT_le (h : rowOk r) {k t : Nat} (hk : k < 8) : fT g0 r k t ≤ 999 := fg_le (rn_p h (j := k) (q := 5) hk (by decide)).2 t
theorem dT_le (h : rowOk r) {k t : Nat} (hk : k < 8) : dT g0 g1 r k t ≤ 9999 := Nat.le_trans (dg_le t) (rn_p h (j := k) (q := 2) hk (by decide)).2
theorem rt_day (t j : Nat) : rt g0 g1 r t j 0 = nI (rn r 0 + t) := if_pos rfl
theorem rt_far {t j k : Nat} (hk : k < rn r 2) : rt g0 g1 r t j (8 + 6 * k + 5) = nI (fT g0 r k (if k < j then t + 1 else t)) := by
  rw [rt, if_neg (by omega), if_pos (by omega), show (8 + 6 * k + 5 - 8) / 6 = k by omega]
theorem rt_debt {t j k : Nat} (hk : k < rn r 2) : rt g0 g1 r t j (8 + 6 * k + 2) = nI (dT g0 g1 r k (if k < j then t + 1 else t)) := by
  rw [rt, if_neg (by omega), if_neg (by omega), if_pos (by omega), show (8 + 6 * k + 2 - 8) / 6 = k by omega]
theorem rt_else {t j i : Nat} (h0 : i ≠ 0) (h : ¬ (8 ≤ i ∧ i < 8 + 6 * rn r 2 ∧ (i % 6 = 1 ∨ i % 6 = 4))) : rt g0 g1 r t j i = r i := by
  rw [rt, if_neg h0, if_neg (by omega), if_neg (by omega)]
theorem rt_0 (h : rowOk r) : rt g0 g1 r 0 0 = r := by
  obtain ⟨c1, c2⟩ := rn_c h
  funext i
  by_cases h0 : i = 0
  · subst h0; rw [rt_day]; exact (rn_d h).1.symm
  · rw [rt, if_neg h0]
    by_cases h1 : 8 ≤ i ∧ i < 8 + 6 * rn r 2 ∧ i % 6 = 1
    · rw [if_pos h1, if_neg (by omega), fT, fg, show 8 + 6 * ((i - 8) / 6) + 5 = i by omega]
      exact (rn_eq h (by unfold okI; omega) (by omega)).1.symm
    · rw [if_neg h1]
      by_cases h2 : 8 ≤ i ∧ i < 8 + 6 * rn r 2 ∧ i % 6 = 4
      · rw [if_pos h2, if_neg (by omega), dT, dg, show 8 + 6 * ((i - 8) / 6) + 2 = i by omega]
        exact (rn_eq h (by unfold okI; omega) (by omega)).1.symm
      · rw [if_neg h2]
theorem rt_step {t k : Nat} (hk : k < rn r 2) : upd (upd (rt g0 g1 r t k) (8 + 6 * k + 5) (nI (fT g0 r k (t + 1)))) (8 + 6 * k + 2) (nI (dT g0 g1 r k (t + 1))) = rt g0 g1 r t (k + 1) := by
  funext i
  by_cases h2 : i = 8 + 6 * k + 2
  · subst h2; rw [upd_same, rt_debt hk, if_pos (by omega)]
  · rw [upd_ne h2]
    by_cases h1 : i = 8 + 6 * k + 5
    · subst h1; rw [upd_same, rt_far hk, if_pos (by omega)]
    · rw [upd_ne h1, rt, rt]
      by_cases e0 : i = 0
      · rw [if_pos e0, if_pos e0]
      · rw [if_neg e0, if_neg e0]
        have key : 8 ≤ i → (i % 6 = 1 ∨ i % 6 = 4) → (if (i - 8) / 6 < k then t + 1 else t) = (if (i - 8) / 6 < k + 1 then t + 1 else t) := by
          intro a b
          by_cases e : (i - 8) / 6 < k
          · rw [if_pos e, if_pos (by omega)]
          · rw [if_neg e, if_neg (by omega)]
        by_cases e1 : 8 ≤ i ∧ i < 8 + 6 * rn r 2 ∧ i % 6 = 1
        · rw [if_pos e1, if_pos e1, key e1.1 (Or.inl e1.2.2)]
        · rw [if_neg e1, if_neg e1]
          by_cases e2 : 8 ≤ i ∧ i < 8 + 6 * rn r 2 ∧ i % 6 = 4
          · rw [if_pos e2, if_pos e2, key e2.1 (Or.inr e2.2.2)]
          · rw [if_neg e2, if_neg e2]
theorem rt_skip {t k : Nat} (hk : k < rn r 2) (hu : rn r (8 + 6 * k + 4) ≠ 1) : rt g0 g1 r t k = rt g0 g1 r t (k + 1) := by
  rw [← rt_step hk]
  have a : nI (fT g0 r k (t + 1)) = rt g0 g1 r t k (8 + 6 * k + 5) := by
    rw [rt_far hk, fT, fT, show decide (rn r (8 + 6 * k + 4) = 1) = false from by simp [hu], fg_no, fg_no]
  have b : nI (dT g0 g1 r k (t + 1)) = rt g0 g1 r t k (8 + 6 * k + 2) := by
    rw [rt_debt hk, dT, dT, show decide (rn r (8 + 6 * k + 4) = 1) = false from by simp [hu], dg_no, dg_no]
  rw [a, b]
  funext i
  by_cases h2 : i = 8 + 6 * k + 2
  · subst h2; rw [upd_same]
  · rw [upd_ne h2]
    by_cases h1 : i = 8 + 6 * k + 5
    · subst h1; rw [upd_same]
    · rw [upd_ne h1]
theorem rt_end (t : Nat) : upd (rt g0 g1 r t (rn r 2)) 0 (nI (rn r 0 + t + 1)) = rt g0 g1 r (t + 1) 0 := by
  funext i
  by_cases h0 : i = 0
  · subst h0; rw [upd_same, rt_day]; rfl
  · rw [upd_ne h0, rt, rt, if_neg h0, if_neg h0]
    by_cases e1 : 8 ≤ i ∧ i < 8 + 6 * rn r 2 ∧ i % 6 = 1
    · rw [if_pos e1, if_pos e1, if_pos (by omega), if_neg (by omega)]
    · rw [if_neg e1, if_neg e1]
      by_cases e2 : 8 ≤ i ∧ i < 8 + 6 * rn r 2 ∧ i % 6 = 4
      · rw [if_pos e2, if_pos e2, if_pos (by omega), if_neg (by omega)]
      · rw [if_neg e2, if_neg e2]
end RT
theorem sub_lt2 {z q i : Nat} (hz : z < 2 ^ 31) (hq : q < 2 ^ 31) (hi : i < 2 ^ 31) : nI z - nI q < nI i ↔ z < q + i := by
  rw [Int32.lt_iff_toInt_lt, Int32.toInt_sub, nI_toInt hz, nI_toInt hq, nI_toInt hi]
  simp only [Int.bmod]
  omega
theorem m_held1 {a b : Nat} (ha : a < 2 ^ 31) (hb : b < 2 ^ 31) (w : ab_W) : sX10_held (nI a) 0 (nI b) w = some (nI (min b a), w) := by
  rw [sX10_held, if_neg (nI_pos ha)]
  by_cases h : b < a
  · rw [if_pos (nI_lt h ha), Nat.min_eq_left (by omega)]
  · rw [if_neg (nI_nlt (by omega) hb), Nat.min_eq_right (by omega)]
theorem m_held2 {a b c : Nat} (ha : a ≤ c) (hb : b < 2 ^ 31) (hc : c < 2 ^ 31) (w : ab_W) : sX10_held (nI a - nI b) 0 (nI c) w = some (nI (a - b), w) := by
  rw [sX10_held]
  by_cases h : a < b
  · rw [if_pos (show nI a - nI b < 0 from (sub_lt2 (z := a) (i := 0) (by omega) hb (by omega)).mpr (by omega)), show a - b = 0 by omega]
    rfl
  · rw [if_neg (show ¬ nI a - nI b < 0 from fun e => by have := (sub_lt2 (z := a) (i := 0) (by omega) hb (by omega)).mp e; omega), pk_sub (by omega), if_neg (nI_nlt (by omega) (by omega))]
theorem remk {q k : Nat} (h : q < 2 ^ 31) (hk : 0 < k) (hk2 : k < 2 ^ 31) : ab_rem (nI q) (nI k) = some (nI (q % k)) := by
  rw [ab_rem, if_neg (nI_ne0 hk hk2), pk_rem h hk hk2]
theorem divk {q k : Nat} (h : q < 2 ^ 31) (hk : 0 < k) (hk2 : k < 2 ^ 31) : ab_div (nI q) (nI k) = some (nI (q / k)) := by
  rw [ab_div, if_neg (nI_ne0 hk hk2), pk_div h hk hk2]
/-- the reference's days: its row goes on, and only what is thrown away changes beside it -/
def mK (J : Nat → Int32) (B : Nat → Nat → Int32) (J' : Nat → Int32) (B' : Nat → Nat → Int32) (ρ : Nat → Int32) : Prop := mJ J J' ∧ B' 1 = ρ ∧ ∀ k, k ≠ 1 → k ≠ 6 → B' k = B k
def EM (r : Nat → Int32) (g0 g1 : Int32 → Int32 → Int32 → Nat) : Prop := rowOk r ∧ gOk 0 g0 ∧ gOk 1 g1 ∧ LM 0 (r 5) (fun j => r (126 + j)) g0 ∧ LM 1 (r 6) (fun j => r (176 + j)) g1
theorem mJ.refl (J : Nat → Int32) : mJ J J := ⟨rfl, rfl, rfl⟩
theorem mJ.trans {J J' J'' : Nat → Int32} (h : mJ J J') (h' : mJ J' J'') : mJ J J'' := ⟨h'.1.trans h.1, h'.2.1.trans h.2.1, h'.2.2.trans h.2.2⟩
section MD
variable {J : Nat → Int32} {B : Nat → Nat → Int32} {g0 g1 : Int32 → Int32 → Int32 → Nat} {r : Nat → Int32}
theorem m_goes {k kd c d : Nat} (hk : k < 8) (hc : c < 128) (h6 : kd ≤ 6) (hd : d < 2 ^ 31) (e3 : B 1 (8 + 6 * k + 3) = nI c) (e0 : B 1 (8 + 6 * k + 0) = nI kd) (ed : B 1 0 = nI d) (hg : gOk 0 g0) (hL : LM 0 (B 1 5) (fun j => B 1 (126 + j)) g0) : ∃ J' f, sX10_goes 0 (nI k) (mW J B) = some (nI (if kd = 5 ∧ d % 5 = 0 then 0 else str g0 kd c (B 1 7)), mW J' (upB B 6 f)) ∧ mJ J J' := by
  have hw := wid_rng hc
  have ht := (mxl_thk hc).2
  have hv : g0 (nI (wid c)) (nI (thk c)) (B 1 7) ≤ 99 := hg _ _ _
  obtain ⟨J', e, hJ⟩ := hL J (upB B 6 (lyF c 7 (lyF c 7 (B 6)))) (nI (wid c)) (nI (thk c)) (B 1 7) rfl (fun j hj => by rw [show 126 + 50 * 0 + j = 126 + j by omega]; rfl)
  refine ⟨J', lyF c 7 (lyF c 7 (B 6)), ?_, hJ⟩
  have i0 : ∀ J, sX10_its 0 (nI k) 0 (mW J (upB B 6 (lyF c 7 (lyF c 7 (B 6))))) = some (nI kd, mW J (upB B 6 (lyF c 7 (lyF c 7 (B 6))))) := fun J => by rw [m_i0 hk, upB_ne (by decide), e0]
  have e' : ∀ x, sX10_lawOf 0 0 (nI (wid c)) (nI (thk c)) (B 1 7) (mW J (upB B 6 (lyF c 7 (lyF c 7 (B 6))))) = x → sX10_lawOf 0 (nI 0) (nI (wid c)) (nI (thk c)) (B 1 7) (mW J (upB B 6 (lyF c 7 (lyF c 7 (B 6))))) = x := fun x h => h
  rw [sX10_goes, if_pos (m_is J B), m_i3 hk, ab_b2_some, e3, m_wide hc, ab_b2_some, m_i3 hk, ab_b2_some, upB_ne (by decide), e3, m_thick hc, ab_b2_some, upB_upB, upB_at, m_R0, Option.bind_some, show ab_ald (mW J (upB B 6 (lyF c 7 (lyF c 7 (B 6))))) 1 7 = some (B 1 7) from rfl, Option.bind_some, show sX10_lawOf 0 0 (nI (wid c)) (nI (thk c)) (B 1 7) (mW J (upB B 6 (lyF c 7 (lyF c 7 (B 6))))) = _ from e, ab_b2_some, i0, ab_b2_some]
  rw [str]
  generalize g0 (nI (wid c)) (nI (thk c)) (B 1 7) = v at hv ⊢
  rcases (show kd = 0 ∨ kd = 1 ∨ kd = 2 ∨ kd = 3 ∨ kd = 4 ∨ kd = 5 ∨ kd = 6 by omega) with rfl | rfl | rfl | rfl | rfl | rfl | rfl
  · rfl
  · rw [if_pos (by decide), show (2 * nI v : Int32) = nI (2 * v) from pk_mul 2 v]; rfl
  · rw [if_neg (by decide), if_pos (by decide), nI_add]; rfl
  · rw [if_neg (by decide), if_neg (by decide), if_pos (by decide)]
    by_cases h : thk c < v
    · rw [if_pos (nI_lt h (by omega)), pk_sub (by omega)]; rfl
    · rw [if_neg (nI_nlt (by omega) (by omega)), if_neg (by omega), show sds 3 v (wid c) (thk c) = 0 from by show v - thk c = 0; omega]; rfl
  · rw [if_neg (by decide), if_neg (by decide), if_neg (by decide), if_pos (by decide), show (2 * nI v : Int32) = nI (2 * v) from pk_mul 2 v]; rfl
  · rw [if_neg (by decide), if_neg (by decide), if_neg (by decide), if_neg (by decide), if_pos (by decide), m_R0, Option.bind_some, show ab_ald (mW J' (upB B 6 (lyF c 7 (lyF c 7 (B 6))))) 1 0 = some (B 1 0) from rfl, Option.bind_some, ed, show ab_rem (nI d) 5 = _ from remk (k := 5) hd (by decide) (by decide), Option.bind_some]
    by_cases h : d % 5 = 0
    · rw [if_pos (by rw [h]; rfl), if_pos ⟨rfl, h⟩]; rfl
    · rw [if_neg (nI_ne0 (by omega) (by omega)), if_neg (fun e => h e.2), nI_add]; rfl
  · rw [if_neg (by decide), if_neg (by decide), if_neg (by decide), if_neg (by decide), if_neg (by decide), if_pos (by decide), show ab_div (nI v) 2 = _ from divk (k := 2) (by omega) (by decide) (by decide)]; rfl
theorem m_oneDay_2 (h : EM r g0 g1) {t : Nat} (ht : t ≤ 1000) : ∀ (m j k : Nat) (J : Nat → Int32) (B : Nat → Nat → Int32), j + m = rn r 2 → B 1 = rt g0 g1 r t j → ∃ J' B', sX10_oneDay_2 (k + m + 1) 0 (nI j) (mW J B) = some (mW J' B') ∧ mK J B J' B' (rt g0 g1 r (t + 1) 0) := by
  obtain ⟨hr, hg0, hg1, hL0, hL1⟩ := h
  obtain ⟨c1, c2⟩ := rn_c hr
  obtain ⟨d1, d2⟩ := rn_d hr
  intro m
  induction m with
  | zero =>
    intro j k J B hj hB
    have : j = rn r 2 := by omega
    subst this
    have hB2 : B 1 2 = nI (rn r 2) := by rw [hB, rt_else (by decide) (by omega)]; exact c1
    refine ⟨J, up2 B 1 0 (nI (rn r 0 + t + 1)), ?_, mJ.refl J, ?_, fun k h1 h2 => up2_ne h1⟩
    · rw [sX10_oneDay_2, m_R0, Option.bind_some, m_R2', Option.bind_some, hB2, if_neg (nI_nlt (by omega) (by omega)), Option.bind_some, show ab_ald (mW J B) 1 0 = some (B 1 0) from rfl, Option.bind_some, hB, rt_day, nI_1]
      rfl
    · rw [up2_at, hB, rt_end]
  | succ m ih =>
    intro j k J B hj hB
    have hj8 : j < 8 := by omega
    have hB2 : B 1 2 = nI (rn r 2) := by rw [hB, rt_else (by decide) (by omega)]; exact c1
    have hB4 : B 1 (8 + 6 * j + 4) = nI (rn r (8 + 6 * j + 4)) := by rw [hB, rt_else (by omega) (by omega)]; exact (rn_p hr hj8 (by decide)).1
    have u1 := (rn_p hr (j := j) (q := 4) hj8 (by decide)).2
    simp only [List.getD_cons_zero, List.getD_cons_succ] at u1
    rw [show k + (m + 1) + 1 = (k + m + 1) + 1 by omega, sX10_oneDay_2, m_R0, Option.bind_some, m_R2', Option.bind_some, hB2, if_pos (nI_lt (by omega) (by omega)), m_i4 hj8, ab_b2_some, hB4]
    by_cases hu : rn r (8 + 6 * j + 4) = 1
    · rw [hu, if_pos (by decide), m_i5 hj8, ab_b2_some]
      have q3 := rn_p hr (j := j) (q := 3) hj8 (by decide)
      have q0 := rn_p hr (j := j) (q := 0) hj8 (by decide)
      have q5 := rn_p hr (j := j) (q := 5) hj8 (by decide)
      have q2 := rn_p hr (j := j) (q := 2) hj8 (by decide)
      simp only [List.getD_cons_zero, List.getD_cons_succ] at q3 q0 q5 q2
      have hc128 : rn r (8 + 6 * j + 3) < 128 := by omega
      obtain ⟨J1, f, e1, hJ1⟩ := m_goes (J := J) (B := B) (g0 := g0) (k := j) (kd := rn r (8 + 6 * j + 0)) (c := rn r (8 + 6 * j + 3)) (d := rn r 0 + t) hj8 hc128 q0.2 (by omega) (by rw [hB, rt_else (by omega) (by omega)]; exact q3.1) (by rw [hB, rt_else (by omega) (by omega)]; exact q0.1) (by rw [hB, rt_day]) hg0 (by
        rw [hB, rt_else (by decide) (by omega), show (fun j_1 => rt g0 g1 r t j (126 + j_1)) = (fun j => r (126 + j)) from funext fun x => rt_else (by omega) (by omega)]
        exact hL0)
      have hs := str_le (kd := rn r (8 + 6 * j + 0)) (w := r 7) hg0 hc128
      have hfar : fT g0 r j t ≤ 999 := fT_le hr hj8
      have hdbt : dT g0 g1 r j t ≤ 9999 := dT_le hr hj8
      have w7 : B 1 7 = r 7 := by rw [hB, rt_else (by decide) (by omega)]
      have bf : B 1 (8 + 6 * j + 5) = nI (fT g0 r j t) := by rw [hB, rt_far (by omega), if_neg (by omega)]
      have bd : B 1 (8 + 6 * j + 2) = nI (dT g0 g1 r j t) := by rw [hB, rt_debt (by omega), if_neg (by omega)]
      have ef : fT g0 r j (t + 1) = min 999 (fT g0 r j t + (if rn r (8 + 6 * j + 0) = 5 ∧ (rn r 0 + t) % 5 = 0 then 0 else str g0 (rn r (8 + 6 * j + 0)) (rn r (8 + 6 * j + 3)) (r 7))) := by
        rw [fT, fg, ← fT]
        by_cases h5 : rn r (8 + 6 * j + 0) = 5 ∧ (rn r 0 + t) % 5 = 0
        · rw [if_neg (by rw [h5.2, decide_eq_true h5.1]; simp), if_pos h5]
          omega
        · rw [if_pos (by simp only [hu, decide_true, Bool.true_and, Bool.not_eq_true', Bool.and_eq_false_iff, decide_eq_false_iff_not, beq_eq_false_iff_ne]; omega), if_neg h5]
      have ed : dT g0 g1 r j (t + 1) = dT g0 g1 r j t - g1 (nI (dT g0 g1 r j t)) (nI (fT g0 r j (t + 1))) (nI ((rn r 0 + t) % 7)) := by
        rw [dT, dg, ← dT, ← fT, if_pos (by simp [hu])]
      rw [bf, e1, ab_b2_some, nI_add, w7]
      have hsm : (if rn r (8 + 6 * j + 0) = 5 ∧ (rn r 0 + t) % 5 = 0 then 0 else str g0 (rn r (8 + 6 * j + 0)) (rn r (8 + 6 * j + 3)) (r 7)) ≤ 198 := by split <;> omega
      rw [show sX10_held (nI (fT g0 r j t + (if rn r (8 + 6 * j + 0) = 5 ∧ (rn r 0 + t) % 5 = 0 then 0 else str g0 (rn r (8 + 6 * j + 0)) (rn r (8 + 6 * j + 3)) (r 7)))) 0 999 (mW J1 (upB B 6 f)) = _ from m_held1 (b := 999) (by omega) (by decide) _, ← ef, ab_b2_some, m_g5 hj8, Option.bind_some, m_i2 hj8, ab_b2_some, m_i2 hj8, ab_b2_some, m_i5 hj8, ab_b2_some]
      have x1 : up2 (upB B 6 f) 1 (8 + 6 * j + 5) (nI (fT g0 r j (t + 1))) 1 (8 + 6 * j + 2) = nI (dT g0 g1 r j t) := by rw [up2_at, upd_ne (by omega), upB_ne (by decide), bd]
      have x2 : up2 (upB B 6 f) 1 (8 + 6 * j + 5) (nI (fT g0 r j (t + 1))) 1 (8 + 6 * j + 5) = nI (fT g0 r j (t + 1)) := by rw [up2_at, upd_same]
      have x0 : up2 (upB B 6 f) 1 (8 + 6 * j + 5) (nI (fT g0 r j (t + 1))) 1 0 = nI (rn r 0 + t) := by rw [up2_at, upd_ne (by omega), upB_ne (by decide), hB, rt_day]
      have xe : ∀ i, 56 ≤ i ∨ i = 6 → up2 (upB B 6 f) 1 (8 + 6 * j + 5) (nI (fT g0 r j (t + 1))) 1 i = r i := fun i hi => by rw [up2_at, upd_ne (by omega), upB_ne (by decide), hB, rt_else (by omega) (by omega)]
      obtain ⟨J2, e2, hJ2⟩ := hL1 J1 (up2 (upB B 6 f) 1 (8 + 6 * j + 5) (nI (fT g0 r j (t + 1)))) (nI (dT g0 g1 r j t)) (nI (fT g0 r j (t + 1))) (nI ((rn r 0 + t) % 7)) (xe 6 (Or.inr rfl)) (fun x hx => xe _ (Or.inl (by omega)))
      rw [x1, x2, m_R0, Option.bind_some, show ∀ B, ab_ald (mW J1 B) 1 0 = some (B 1 0) from fun B => rfl, Option.bind_some, x0, show ab_rem (nI (rn r 0 + t)) 7 = _ from remk (k := 7) (by omega) (by decide) (by decide), Option.bind_some, show sX10_lawOf 0 1 (nI (dT g0 g1 r j t)) (nI (fT g0 r j (t + 1))) (nI ((rn r 0 + t) % 7)) (mW J1 (up2 (upB B 6 f) 1 (8 + 6 * j + 5) (nI (fT g0 r j (t + 1))))) = _ from e2, ab_b2_some]
      have hgb : g1 (nI (dT g0 g1 r j t)) (nI (fT g0 r j (t + 1))) (nI ((rn r 0 + t) % 7)) ≤ 999 := hg1 _ _ _
      rw [show sX10_held (nI (dT g0 g1 r j t) - nI (g1 (nI (dT g0 g1 r j t)) (nI (fT g0 r j (t + 1))) (nI ((rn r 0 + t) % 7)))) 0 9999 (mW J2 (up2 (upB B 6 f) 1 (8 + 6 * j + 5) (nI (fT g0 r j (t + 1))))) = _ from m_held2 (c := 9999) hdbt (by omega) (by decide) _, ← ed, ab_b2_some, m_g2 hj8, Option.bind_some, sX10_oneDay_93, nI_1]
      obtain ⟨J', B', e, k1, k2, k3⟩ := ih (j + 1) k J2 (up2 (up2 (upB B 6 f) 1 (8 + 6 * j + 5) (nI (fT g0 r j (t + 1)))) 1 (8 + 6 * j + 2) (nI (dT g0 g1 r j (t + 1)))) (by omega) (by rw [up2_at, up2_at, upB_ne (by decide), hB, rt_step (by omega)])
      exact ⟨J', B', e, (hJ1.trans hJ2).trans k1, k2, fun x h1 h6 => by rw [k3 x h1 h6, up2_ne h1, up2_ne h1, upB_ne h6]⟩
    · rw [if_neg (show ¬ nI (rn r (8 + 6 * j + 4)) = 1 from fun e => hu ((nI_eq (b := 1) (by omega) (by decide)).mp e)), sX10_oneDay_93, nI_1]
      exact ih (j + 1) k J B (by omega) (by rw [hB, rt_skip (by omega) hu])
theorem m_oneDay (h : EM r g0 g1) {t : Nat} (ht : t ≤ 1000) (hB : B 1 = rt g0 g1 r t 0) : ∃ J' B', sX10_oneDay 0 (mW J B) = some (mW J' B') ∧ mK J B J' B' (rt g0 g1 r (t + 1) 0) := by
  have c2 := (rn_c h.1).2
  obtain ⟨J', B', e, hk⟩ := m_oneDay_2 h ht (rn r 2) 0 (999 - rn r 2) J B (by omega) hB
  rw [show 999 - rn r 2 + rn r 2 + 1 = 1000 by omega] at e
  exact ⟨J', B', by rw [sX10_oneDay, if_pos (m_is J B)]; exact e, hk⟩
theorem m_passes_2 (h : EM r g0 g1) {q : Nat} (hq : q ≤ 100) : ∀ (m t k : Nat) (J : Nat → Int32) (B : Nat → Nat → Int32), t + m = q → B 1 = rt g0 g1 r t 0 → ∃ J' B', sX10_passes_2 (k + m + 1) 0 (nI q) (nI t) (mW J B) = some (mW J' B') ∧ mK J B J' B' (rt g0 g1 r q 0) := by
  intro m
  induction m with
  | zero =>
    intro t k J B ht hB
    have : t = q := by omega
    subst this
    refine ⟨J, B, ?_, mJ.refl J, hB, fun _ _ _ => rfl⟩
    rw [sX10_passes_2, if_neg (nI_nlt (by omega) (by omega))]
  | succ m ih =>
    intro t k J B ht hB
    obtain ⟨J1, B1, e1, a1, a2, a3⟩ := m_oneDay (J := J) h (t := t) (by omega) hB
    obtain ⟨J', B', e, b1, b2, b3⟩ := ih (t + 1) k J1 B1 (by omega) a2
    refine ⟨J', B', ?_, a1.trans b1, b2, fun x h1 h6 => (b3 x h1 h6).trans (a3 x h1 h6)⟩
    rw [show k + (m + 1) + 1 = (k + m + 1) + 1 by omega, sX10_passes_2, if_pos (nI_lt (by omega) (by omega)), e1, Option.bind_some, nI_1]
    exact e
theorem m_passes (h : EM r g0 g1) {q : Nat} (hq : q ≤ 100) (hB : B 1 = r) : ∃ J' B', sX10_passes 0 (nI q) (mW J B) = some (mW J' B') ∧ mK J B J' B' (rt g0 g1 r q 0) := by
  obtain ⟨J', B', e, hk⟩ := m_passes_2 h hq q 0 (999 - q) J B (by omega) (by rw [rt_0 h.1]; exact hB)
  rw [show 999 - q + q + 1 = 1000 by omega] at e
  exact ⟨J', B', by rw [sX10_passes, if_pos (m_is J B)]; exact e, hk⟩
end MD
