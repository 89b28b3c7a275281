/-! ===== the reference's wide and thick ===== -/
theorem bit_of {c k : Nat} (hc : c < 128) (hk : k < 7) : (((nI c >>> (nI k &&& 31)) &&& 1) = 1) ↔ c.testBit k = true := by
  have h : ∀ c, c < 128 → ∀ k, k < 7 → ((((nI c >>> (nI k &&& 31)) &&& 1) = 1) ↔ c.testBit k = true) := by decide +kernel
  exact h c hc k hk
theorem stp_rng (c : Nat) : ∀ k, k ≤ 7 → 8 ≤ (stp c k).1 + k ∧ (stp c k).1 ≤ 8 + k := by
  intro k
  induction k with
  | zero => intro _; simp [stp]
  | succ k ih =>
    intro hk
    have := ih (by omega)
    simp only [stp]
    split
    · simp only; omega
    · simp only
      split <;> omega
def wI (d : Bool) : Int32 := if d then 1 else -1
def zf (f : Nat → Int32) (j : Nat) : Nat → Int32 := fun i => if i < j then 0 else f i
def lyF (c k : Nat) (f : Nat → Int32) : Nat → Int32 := fun i => if i < 16 then nI (lyn c k i) else f i
theorem lyF_at {c k i : Nat} (f : Nat → Int32) (h : i < 16) : lyF c k f i = nI (lyn c k i) := if_pos h
theorem zf_step (f : Nat → Int32) (j : Nat) : upd (zf f j) j 0 = zf f (j + 1) := by
  funext i
  by_cases h : i = j
  · subst h; simp [upd, zf]
  · simp only [upd, h, if_false, zf]
    by_cases h2 : i < j
    · rw [if_pos h2, if_pos (by omega)]
    · rw [if_neg h2, if_neg (by omega)]
theorem zf_0 (f : Nat → Int32) : zf f 0 = f := by funext i; simp [zf]
theorem lyF_0 (c : Nat) (f : Nat → Int32) : upd (zf f 16) 8 (zf f 16 8 + 1) = lyF c 0 f := by
  funext i
  by_cases h : i = 8
  · subst h; rfl
  · simp only [upd, h, if_false, zf, lyF, lyn]
    split <;> rfl
theorem lyF_s {c k : Nat} (f : Nat → Int32) (hp : (stp c (k + 1)).1 < 16) : upd (lyF c k f) (stp c (k + 1)).1 (lyF c k f (stp c (k + 1)).1 + 1) = lyF c (k + 1) f := by
  funext i
  by_cases h : i = (stp c (k + 1)).1
  · subst h
    simp only [upd, if_true, lyF, hp, lyn]
    exact nI_1 _
  · simp only [upd, h, if_false, lyF, lyn, Nat.add_zero]
theorem upB_up2 (B : Nat → Nat → Int32) (c : Nat) (f : Nat → Int32) (i : Nat) (v : Int32) : up2 (upB B c f) c i v = upB B c (upd f i v) := by
  funext k
  by_cases h : k = c
  · subst h; simp [up2, upB]
  · simp [up2, upB, h]
theorem upB_upB (B : Nat → Nat → Int32) (c : Nat) (f g : Nat → Int32) : upB (upB B c f) c g = upB B c g := by
  funext k
  by_cases h : k = c <;> simp [upB, h]
theorem upB_id (B : Nat → Nat → Int32) (c : Nat) : upB B c (B c) = B := by
  funext k
  by_cases h : k = c
  · subst h; simp [upB]
  · simp [upB, h]
theorem wI_add {p : Nat} (d : Bool) (hp : 1 ≤ p) (hp2 : p < 100) : nI p + wI d = nI (if d then p + 1 else p - 1) := by
  cases d
  · show nI p + (-1) = nI (p - 1)
    obtain ⟨q, rfl⟩ : ∃ q, p = q + 1 := ⟨p - 1, by omega⟩
    exact pk_m1 q
  · exact nI_1 p
theorem wI_neg (d : Bool) : -(wI d) = wI (!d) := by cases d <;> rfl
section ST
variable {J : Nat → Int32} {B : Nat → Nat → Int32}
theorem m_lies_87 {k39 : Nat → Int32 → Int32 → Int32 → Int32 → ab_W → Option (ab_W)} {x1 x4 p0 : Int32} {p : Nat} {f : Nat → Int32} (hp : p < 16) : sX10_lies_87 k39 0 x1 (nI p) x4 p0 (mW J (upB B 6 f)) = k39 0 x1 (nI p) p0 (x4 + 1) (mW J (upB B 6 (upd f p (f p + 1)))) := by
  rw [sX10_lies_87, m_R15, Option.bind_some, m_A6 _ _ hp, Option.bind_some, m_S6 _ _ _ hp, Option.bind_some, upB_up2, upB_at]
theorem m_lies_39 {c : Nat} (hc : c < 128) (f : Nat → Int32) : ∀ (m k n : Nat), k + m = 7 → sX10_lies_39 (n + m + 1) 0 (nI c) (nI (stp c k).1) (wI (stp c k).2) (nI k) (mW J (upB B 6 (lyF c k f))) = some (mW J (upB B 6 (lyF c 7 f))) := by
  intro m
  induction m with
  | zero =>
    intro k n hk
    have : k = 7 := by omega
    subst this
    rw [sX10_lies_39, if_neg (by decide)]
  | succ m ih =>
    intro k n hk
    have hr := stp_rng c k (by omega)
    have hr1 := stp_rng c (k + 1) (by omega)
    have e := ih (k + 1) n (by omega)
    rw [show n + (m + 1) + 1 = (n + m + 1) + 1 by omega, sX10_lies_39, if_pos (show nI k < 7 from nI_lt (a := k) (b := 7) (by omega) (by omega))]
    by_cases hb : c.testBit k = true
    · rw [if_pos ((bit_of hc (by omega)).mpr hb), sX10_lies_61, if_neg (by decide), sX10_lies_74, if_neg (by decide)]
      have e1 : (stp c (k + 1)).1 = (stp c k).1 := by simp [stp, hb]
      have e2 : (stp c (k + 1)).2 = !(stp c k).2 := by simp [stp, hb]
      rw [show (nI (stp c k).1 + 0 : Int32) = nI (stp c (k + 1)).1 from by rw [e1]; exact Int32.add_zero _, m_lies_87 (by omega), wI_neg, ← e2, lyF_s f (by omega), nI_1]
      exact e
    · rw [if_neg (fun h => hb ((bit_of hc (by omega)).mp h)), sX10_lies_61, if_pos (by decide), sX10_lies_74, if_pos (by decide)]
      have e1 : (stp c (k + 1)).1 = if (stp c k).2 then (stp c k).1 + 1 else (stp c k).1 - 1 := by simp [stp, hb]
      have e2 : (stp c (k + 1)).2 = (stp c k).2 := by simp [stp, hb]
      rw [wI_add _ (by omega) (by omega), ← e1, m_lies_87 (by omega), ← e2, lyF_s f (by omega), nI_1]
      exact e
theorem m_lies_2 {c : Nat} (hc : c < 128) (f : Nat → Int32) : ∀ (m j n : Nat), j + m = 16 → sX10_lies_2 (n + m + 1) 0 (nI c) (nI j) (mW J (upB B 6 (zf f j))) = some (mW J (upB B 6 (lyF c 7 f))) := by
  intro m
  induction m with
  | zero =>
    intro j n hj
    have : j = 16 := by omega
    subst this
    rw [sX10_lies_2, if_neg (by decide), m_R15, Option.bind_some, show (8 : Int32) = nI 8 from rfl, m_A6 _ _ (by omega), Option.bind_some, m_S6 _ _ _ (by omega), Option.bind_some, upB_up2, upB_at, lyF_0 c f]
    exact m_lies_39 hc f 7 0 992 rfl
  | succ m ih =>
    intro j n hj
    rw [show n + (m + 1) + 1 = (n + m + 1) + 1 by omega, sX10_lies_2, if_pos (show nI j < 16 from nI_lt (a := j) (b := 16) (by omega) (by omega)), m_R15, Option.bind_some, m_S6 _ _ _ (by omega), Option.bind_some, upB_up2, zf_step, nI_1]
    exact ih (j + 1) n (by omega)
theorem m_lies {c : Nat} (hc : c < 128) : sX10_lies 0 (nI c) (mW J B) = some (mW J (upB B 6 (lyF c 7 (B 6)))) := by
  rw [sX10_lies, if_pos (m_is J B)]
  have := m_lies_2 (J := J) (B := B) hc (B 6) 16 0 983 rfl
  rw [zf_0, upB_id] at this
  exact this
theorem shp {c : Nat} (hc : c < 128) : lws c 7 ≤ 8 ∧ 8 ≤ hgs c 7 ∧ hgs c 7 ≤ 15 ∧ (∀ i, i < lws c 7 → lyn c 7 i = 0) ∧ lyn c 7 (lws c 7) ≠ 0 ∧ (∀ i, i < 16 → hgs c 7 < i → lyn c 7 i = 0) ∧ lyn c 7 (hgs c 7) ≠ 0 ∧ (∀ i, i < 16 → lyn c 7 i ≤ 8) := by
  have h : ∀ c, c < 128 → lws c 7 ≤ 8 ∧ 8 ≤ hgs c 7 ∧ hgs c 7 ≤ 15 ∧ (∀ i, i < lws c 7 → lyn c 7 i = 0) ∧ lyn c 7 (lws c 7) ≠ 0 ∧ (∀ i, i < 16 → hgs c 7 < i → lyn c 7 i = 0) ∧ lyn c 7 (hgs c 7) ≠ 0 ∧ (∀ i, i < 16 → lyn c 7 i ≤ 8) := by decide +kernel
  exact h c hc
theorem m_wide_25 {c : Nat} (hc : c < 128) (f : Nat → Int32) : ∀ (m n : Nat), hgs c 7 + m ≤ 15 → sX10_wide_25 (n + m + 1) 0 (nI (lws c 7)) (nI (hgs c 7 + m)) (mW J (upB B 6 (lyF c 7 f))) = some (nI (wid c), mW J (upB B 6 (lyF c 7 f))) := by
  obtain ⟨h1, h2, h3, h4, h5, h6, h7, h8⟩ := shp hc
  intro m
  induction m with
  | zero =>
    intro n hm
    rw [sX10_wide_25, m_R15, Option.bind_some, m_A6 _ _ (by omega), Option.bind_some, upB_at, lyF_at f (by omega), if_neg (nI_ne0 (by simp only [Nat.add_zero]; omega) (by have := h8 (hgs c 7) (by omega); simp only [Nat.add_zero]; omega)), pk_sub (by omega), nI_1]
    rfl
  | succ m ih =>
    intro n hm
    rw [show n + (m + 1) + 1 = (n + m + 1) + 1 by omega, sX10_wide_25, m_R15, Option.bind_some, m_A6 _ _ (by omega), Option.bind_some, upB_at, lyF_at f (by omega), h6 _ (by omega) (by omega), if_pos (by decide), show hgs c 7 + (m + 1) = (hgs c 7 + m) + 1 by omega, pk_m1]
    exact ih n (by omega)
theorem m_wide_10 {c : Nat} (hc : c < 128) (f : Nat → Int32) : ∀ (m j n : Nat), j + m = lws c 7 → sX10_wide_10 (n + m + 1) 0 (nI j) 15 (mW J (upB B 6 (lyF c 7 f))) = some (nI (wid c), mW J (upB B 6 (lyF c 7 f))) := by
  obtain ⟨h1, h2, h3, h4, h5, h6, h7, h8⟩ := shp hc
  intro m
  induction m with
  | zero =>
    intro j n hj
    have : j = lws c 7 := by omega
    subst this
    rw [sX10_wide_10, m_R15, Option.bind_some, m_A6 _ _ (by omega), Option.bind_some, upB_at, lyF_at f (by omega), if_neg (nI_ne0 (by omega) (by have := h8 (lws c 7) (by omega); omega))]
    have := m_wide_25 (J := J) (B := B) hc f (15 - hgs c 7) (999 - (15 - hgs c 7)) (by omega)
    rw [show hgs c 7 + (15 - hgs c 7) = 15 by omega, show 999 - (15 - hgs c 7) + (15 - hgs c 7) + 1 = 1000 by omega] at this
    exact this
  | succ m ih =>
    intro j n hj
    rw [show n + (m + 1) + 1 = (n + m + 1) + 1 by omega, sX10_wide_10, m_R15, Option.bind_some, m_A6 _ _ (by omega), Option.bind_some, upB_at, lyF_at f (by omega), h4 _ (by omega), if_pos (by decide), nI_1]
    exact ih (j + 1) n (by omega)
theorem m_wide {c : Nat} (hc : c < 128) : sX10_wide 0 (nI c) (mW J B) = some (nI (wid c), mW J (upB B 6 (lyF c 7 (B 6)))) := by
  obtain ⟨h1, h2, h3, h4, h5, h6, h7, h8⟩ := shp hc
  rw [sX10_wide, if_pos (m_is J B), m_lies hc, Option.bind_some]
  have := m_wide_10 (J := J) (B := B) hc (B 6) (lws c 7) 0 (999 - lws c 7) (by omega)
  rw [show 999 - lws c 7 + lws c 7 + 1 = 1000 by omega] at this
  exact this
def mxl (c : Nat) : Nat → Nat
  | 0 => 0
  | i + 1 => max (mxl c i) (lyn c 7 i)
theorem mxl_thk {c : Nat} (hc : c < 128) : mxl c 16 = thk c ∧ thk c ≤ 8 ∧ 1 ≤ thk c := by
  have h : ∀ c, c < 128 → mxl c 16 = thk c ∧ thk c ≤ 8 ∧ 1 ≤ thk c := by decide +kernel
  exact h c hc
theorem wid_rng {c : Nat} (hc : c < 128) : 1 ≤ wid c ∧ wid c ≤ 8 := by
  have h : ∀ c, c < 128 → 1 ≤ wid c ∧ wid c ≤ 8 := by decide +kernel
  exact h c hc
theorem mxl_le {c : Nat} (hc : c < 128) : ∀ i, i ≤ 16 → mxl c i ≤ 8 := by
  intro i
  induction i with
  | zero => intro _; simp [mxl]
  | succ i ih =>
    intro hi
    have h1 := ih (by omega)
    have h2 := (shp hc).2.2.2.2.2.2.2 i (by omega)
    simp only [mxl]
    omega
theorem m_thick_9 {c : Nat} (hc : c < 128) (f : Nat → Int32) : ∀ (m i n : Nat), i + m = 16 → sX10_thick_9 (n + m + 1) 0 (nI (mxl c i)) (nI i) (mW J (upB B 6 (lyF c 7 f))) = some (nI (thk c), mW J (upB B 6 (lyF c 7 f))) := by
  intro m
  induction m with
  | zero =>
    intro i n hi
    have : i = 16 := by omega
    subst this
    rw [sX10_thick_9, if_neg (by decide), (mxl_thk hc).1]
  | succ m ih =>
    intro i n hi
    have h1 := mxl_le hc i (by omega)
    have h2 := (shp hc).2.2.2.2.2.2.2 i (by omega)
    have e := ih (i + 1) n (by omega)
    rw [show n + (m + 1) + 1 = (n + m + 1) + 1 by omega, sX10_thick_9, if_pos (show nI i < 16 from nI_lt (a := i) (b := 16) (by omega) (by omega)), m_R15, Option.bind_some, m_A6 _ _ (by omega), Option.bind_some, upB_at, lyF_at f (by omega)]
    by_cases hlt : mxl c i < lyn c 7 i
    · rw [if_pos (nI_lt hlt (by omega)), Option.bind_some, m_A6 _ _ (by omega), Option.bind_some, upB_at, lyF_at f (by omega), sX10_thick_35, nI_1]
      rw [show mxl c (i + 1) = lyn c 7 i from by simp only [mxl]; omega] at e
      exact e
    · rw [if_neg (nI_nlt (by omega) (by omega)), sX10_thick_35, nI_1]
      rw [show mxl c (i + 1) = mxl c i from by simp only [mxl]; omega] at e
      exact e
theorem m_thick {c : Nat} (hc : c < 128) : sX10_thick 0 (nI c) (mW J B) = some (nI (thk c), mW J (upB B 6 (lyF c 7 (B 6)))) := by
  rw [sX10_thick, if_pos (m_is J B), m_lies hc, Option.bind_some]
  exact m_thick_9 (J := J) (B := B) hc (B 6) 16 0 983 rfl
end ST
