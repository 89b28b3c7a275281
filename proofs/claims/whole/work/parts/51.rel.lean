/-! ===== numbers ===== -/
def inN (v : Int32) (n : Nat) : Prop := ∃ k, k ≤ n ∧ v = nI k
theorem inN_nI {k n : Nat} (h : k ≤ n) : inN (nI k) n := ⟨k, h, rfl⟩
theorem inN_0 {n : Nat} : inN 0 n := ⟨0, Nat.zero_le _, rfl⟩
/-- a number within bounds, as both sides ask for it -/
def inR (v : Int32) (lo hi : Nat) : Prop := ∃ k, lo ≤ k ∧ k ≤ hi ∧ v = nI k
theorem inR_iff {v : Int32} {lo hi : Nat} (hl : lo ≤ hi) (hh : hi < 2 ^ 31) : inR v lo hi ↔ ¬ v < nI lo ∧ ¬ nI hi < v := by
  constructor
  · rintro ⟨k, h1, h2, rfl⟩
    exact ⟨nI_nlt h1 (by omega), nI_nlt h2 hh⟩
  · rintro ⟨h1, h2⟩
    have h0 : ¬ v < 0 := by
      intro h0
      apply h1
      rw [Int32.lt_iff_toInt_lt] at h0 ⊢
      rw [nI_toInt (by omega)]
      have : (0 : Int32).toInt = 0 := rfl
      omega
    obtain ⟨j, hj, rfl⟩ := nI_of h0
    refine ⟨j, ?_, ?_, rfl⟩
    · rcases Nat.lt_or_ge j lo with h | h
      · exact absurd (nI_lt h (by omega)) h1
      · exact h
    · rcases Nat.lt_or_ge hi j with h | h
      · exact absurd (nI_lt h hj) h2
      · exact h
theorem m_in_T {v : Int32} {lo hi : Nat} (w : ab_W) (hl : lo ≤ hi) (hh : hi < 2 ^ 31) (h : inR v lo hi) : sX10_in v (nI lo) (nI hi) w = some (1, w) := by
  obtain ⟨h1, h2⟩ := (inR_iff hl hh).mp h
  rw [sX10_in, if_neg h1, if_neg h2]
  rfl
theorem m_in_F {v : Int32} {lo hi : Nat} (w : ab_W) (hl : lo ≤ hi) (hh : hi < 2 ^ 31) (h : ¬ inR v lo hi) : sX10_in v (nI lo) (nI hi) w = some (0, w) := by
  rw [sX10_in]
  by_cases h1 : v < nI lo
  · rw [if_pos h1]; rfl
  · rw [if_neg h1]
    by_cases h2 : nI hi < v
    · rw [if_pos h2]; rfl
    · exact absurd ((inR_iff hl hh).mpr ⟨h1, h2⟩) h
theorem c_in_T {v : Int32} {lo hi : Nat} (w : ab_W) (hl : lo ≤ hi) (hh : hi < 2 ^ 31) (h : inR v lo hi) : sX9_within v (nI lo) (nI hi) w = some (1, w) := by
  obtain ⟨h1, h2⟩ := (inR_iff hl hh).mp h
  rw [sX9_within, if_neg h1, if_neg h2]
  rfl
theorem c_in_F {v : Int32} {lo hi : Nat} (w : ab_W) (hl : lo ≤ hi) (hh : hi < 2 ^ 31) (h : ¬ inR v lo hi) : sX9_within v (nI lo) (nI hi) w = some (0, w) := by
  rw [sX9_within]
  by_cases h1 : v < nI lo
  · rw [if_pos h1]; rfl
  · rw [if_neg h1]
    by_cases h2 : nI hi < v
    · rw [if_pos h2]; rfl
    · exact absurd ((inR_iff hl hh).mpr ⟨h1, h2⟩) h
/-! ===== the relation of the two worlds ===== -/
/-- the greatest value of a place of the row -/
def bnd (i : Nat) : Nat := if i = 0 then 9999 else if i = 2 then 8 else if i = 3 then 50 else if i = 4 then 20 else if i = 7 then 9 else
  if i % 6 = 2 then 6 else if i % 6 = 3 then 9 else if i % 6 = 4 then 9999 else if i % 6 = 5 then 127 else if i % 6 = 0 then 1 else 999
def okI (i : Nat) : Prop := i < 56 ∧ i ≠ 5 ∧ i ≠ 6
def rowOk (r : Nat → Int32) : Prop := ∀ i, okI i → i ≠ 1 → inN (r i) (bnd i)
def mJ (J J' : Nat → Int32) : Prop := J' 4 = J 4 ∧ J' 5 = J 5 ∧ J' 22 = J 22
def gOk (u : Nat) (g : Int32 → Int32 → Int32 → Nat) : Prop := ∀ a b c, g a b c ≤ (if u = 0 then 99 else 999)
/-- the reference's law of a use, whatever else its world holds -/
def LM (u : Nat) (n : Int32) (t : Nat → Int32) (g : Int32 → Int32 → Int32 → Nat) : Prop :=
  ∀ (J : Nat → Int32) (B : Nat → Nat → Int32) (a b c : Int32), B 1 (5 + u) = n → (∀ j, j < 50 → B 1 (126 + 50 * u + j) = t j) → ∃ J', sX10_lawOf 0 (nI u) a b c (mW J B) = some (nI (g a b c), mW J' B) ∧ mJ J J'
/-- the class's law of a use -/
def LC (u : Nat) (n : Int32) (t : Nat → Int32) (g : Int32 → Int32 → Int32 → Nat) : Prop :=
  ∀ (I : Nat → Int32) (A : Nat → Nat → Int32) (tp : Nat) (a b c : Int32), I (5 + u) = n → (∀ j, j < 50 → A (31 + 3 * u) j = t j) → ∃ f, sX0_gives 17 (nI u) a b c (cW I A tp) = some (nI (g a b c), cW I (upB A (32 + 3 * u) f) tp)
def DR (I t w s0 s1 r : Nat → Int32) : Prop :=
  (∀ i, okI i → I i = r i) ∧ (∀ j, j < 50 → t j = r (56 + j)) ∧ (∀ j, j < 20 → w j = r (106 + j)) ∧ rowOk r ∧
  (∃ g, gOk 0 g ∧ LM 0 (r 5) (fun j => r (126 + j)) g ∧ LC 0 (I 5) s0 g) ∧ (∃ g, gOk 1 g ∧ LM 1 (r 6) (fun j => r (176 + j)) g ∧ LC 1 (I 6) s1 g)
def RE (A1 B5 : Nat → Int32) : Prop := ∀ k, 1 ≤ k → k ≤ 5 → A1 k = B5 k
def RS (I : Nat → Int32) (A B : Nat → Nat → Int32) : Prop := ∀ s, s < 4 → I (400 + s) = B 8 s ∧ I (404 + s) = B 9 s ∧ (∀ j, j < 40 → A (4 + 2 * s) j = B 10 (40 * s + j)) ∧ (B 8 s = 0 ∨ B 8 s = 8 ∨ B 8 s = 16 ∨ B 8 s = 32) ∧ inN (B 9 s) 40
def RV (i : Int32) (A64 B12 : Nat → Int32) (j : Int32) : Prop := i = j ∧ inN j 40 ∧ ∀ q, q < 40 → A64 q = B12 q
def RK (n : Nat) (I : Nat → Int32) (A : Nat → Nat → Int32) (J : Nat → Int32) (B2 : Nat → Int32) : Prop :=
  I 408 = J 5 ∧ ((J 4 = 0 ∧ J 5 = 0) ∨ (J 4 = 1 ∧ (∃ k, 1 ≤ k ∧ k ≤ n ∧ J 5 = nI k) ∧ DR (fun i => I (200 + i)) (A 38) (A 40) (A 50) (A 53) B2))
/-! ===== the strip: where its cells lie (8 cells, 16 places; cell 0 at 8) ===== -/
def stp (c : Nat) : Nat → Nat × Bool
  | 0 => (8, true)
  | k + 1 => if c.testBit k then ((stp c k).1, !(stp c k).2) else (if (stp c k).2 then (stp c k).1 + 1 else (stp c k).1 - 1, (stp c k).2)
/-- how many of the cells 0 .. k lie at i -/
def lyn (c : Nat) : Nat → Nat → Nat
  | 0, i => if i = 8 then 1 else 0
  | k + 1, i => lyn c k i + if i = (stp c (k + 1)).1 then 1 else 0
def lws (c : Nat) : Nat → Nat
  | 0 => 8
  | k + 1 => min (lws c k) (stp c (k + 1)).1
def hgs (c : Nat) : Nat → Nat
  | 0 => 8
  | k + 1 => max (hgs c k) (stp c (k + 1)).1
def mxs (c : Nat) : Nat → Nat
  | 0 => 1
  | k + 1 => max (mxs c k) (lyn c (k + 1) (stp c (k + 1)).1)
def wid (c : Nat) : Nat := hgs c 7 - lws c 7 + 1
def thk (c : Nat) : Nat := mxs c 7
def RT (A12 A13 : Nat → Int32) : Prop := ∀ c, c < 128 → A12 c = nI (wid c) ∧ A13 c = nI (thk c)
def RR (n : Nat) (I : Nat → Int32) (A : Nat → Nat → Int32) (J : Nat → Int32) (B : Nat → Nat → Int32) : Prop :=
  DR I (A 19) (A 21) (A 31) (A 34) (B 1) ∧ RE (A 1) (B 5) ∧ RS I A B ∧ RT (A 12) (A 13) ∧ RV (I 424) (A 64) (B 12) (J 22) ∧ RK n I A J (B 2)
def iJ (i : Nat) : Prop := (410 ≤ i ∧ i ≤ 423) ∨ (425 ≤ i ∧ i ≤ 427)
def aJ (k : Nat) : Prop := k = 14 ∨ k = 15 ∨ k = 16 ∨ k = 32 ∨ k = 35 ∨ k = 51 ∨ k = 54 ∨ k = 57 ∨ k = 60 ∨ k = 61 ∨ k = 62
def bJ (k : Nat) : Prop := k = 3 ∨ k = 4 ∨ k = 6 ∨ k = 7 ∨ k = 11
def cE (I : Nat → Int32) (A : Nat → Nat → Int32) (I' : Nat → Int32) (A' : Nat → Nat → Int32) : Prop := (∀ i, ¬ iJ i → I' i = I i) ∧ ∀ k, ¬ aJ k → A' k = A k
def mE (J : Nat → Int32) (B : Nat → Nat → Int32) (J' : Nat → Int32) (B' : Nat → Nat → Int32) : Prop := mJ J J' ∧ ∀ k, ¬ bJ k → B' k = B k
theorem DR.congr {I I' t w s0 s1 r : Nat → Int32} (h : DR I t w s0 s1 r) (hI : ∀ i, i < 56 → I' i = I i) : DR I' t w s0 s1 r := by
  obtain ⟨h1, h2, h3, h4, h5, h6⟩ := h
  refine ⟨fun i hi => by rw [hI i hi.1]; exact h1 i hi, h2, h3, h4, by rw [hI 5 (by decide)]; exact h5, by rw [hI 6 (by decide)]; exact h6⟩
theorem RR.congr {n : Nat} {I I' J J' : Nat → Int32} {A A' B B' : Nat → Nat → Int32} (h : RR n I A J B) (hc : cE I A I' A') (hm : mE J B J' B') : RR n I' A' J' B' := by
  obtain ⟨h1, h2, h3, h4, h5, h6⟩ := h
  obtain ⟨cI, cA⟩ := hc
  obtain ⟨⟨j4, j5, j22⟩, mB⟩ := hm
  have a : ∀ k, ¬ aJ k → A' k = A k := cA
  have a1 := cA 1 (by simp [aJ]); have a12 := cA 12 (by simp [aJ]); have a13 := cA 13 (by simp [aJ]); have a19 := cA 19 (by simp [aJ]); have a21 := cA 21 (by simp [aJ]); have a31 := cA 31 (by simp [aJ]); have a34 := cA 34 (by simp [aJ])
  have a38 := cA 38 (by simp [aJ]); have a40 := cA 40 (by simp [aJ]); have a50 := cA 50 (by simp [aJ]); have a53 := cA 53 (by simp [aJ]); have a64 := cA 64 (by simp [aJ])
  have b1 := mB 1 (by simp [bJ]); have b2 := mB 2 (by simp [bJ]); have b5 := mB 5 (by simp [bJ]); have b8 := mB 8 (by simp [bJ]); have b9 := mB 9 (by simp [bJ]); have b10 := mB 10 (by simp [bJ]); have b12 := mB 12 (by simp [bJ])
  refine ⟨?_, ?_, ?_, ?_, ?_, ?_⟩
  · rw [a19, a21, a31, a34, b1]
    exact h1.congr (fun i hi => cI i (by unfold iJ; omega))
  · rw [a1, b5]; exact h2
  · intro s hs
    obtain ⟨g1, g2, g3, g4, g5⟩ := h3 s hs
    rw [cI _ (by unfold iJ; omega), cI _ (by unfold iJ; omega), b8, b9, b10, cA _ (by unfold aJ; omega)]
    exact ⟨g1, g2, g3, g4, g5⟩
  · rw [a12, a13]; exact h4
  · rw [cI 424 (by unfold iJ; omega), a64, b12, j22]; exact h5
  · obtain ⟨g1, g2⟩ := h6
    refine ⟨by rw [cI 408 (by unfold iJ; omega), j5]; exact g1, ?_⟩
    rw [j4, j5, a38, a40, a50, a53, b2]
    rcases g2 with g2 | ⟨g2, g3, g4⟩
    · exact Or.inl g2
    · exact Or.inr ⟨g2, g3, g4.congr (fun i hi => cI _ (by unfold iJ; omega))⟩
theorem RR.mono {n : Nat} {I J : Nat → Int32} {A B : Nat → Nat → Int32} (h : RR n I A J B) : RR (n + 1) I A J B := by
  obtain ⟨h1, h2, h3, h4, h5, g1, g2⟩ := h
  refine ⟨h1, h2, h3, h4, h5, g1, ?_⟩
  rcases g2 with g2 | ⟨g2, ⟨k, k1, k2, k3⟩, g4⟩
  · exact Or.inl g2
  · exact Or.inr ⟨g2, ⟨k, k1, by omega, k3⟩, g4⟩
theorem cE.refl (I : Nat → Int32) (A : Nat → Nat → Int32) : cE I A I A := ⟨fun _ _ => rfl, fun _ _ => rfl⟩
theorem mE.refl (J : Nat → Int32) (B : Nat → Nat → Int32) : mE J B J B := ⟨⟨rfl, rfl, rfl⟩, fun _ _ => rfl⟩
theorem cE.trans {I I' I'' : Nat → Int32} {A A' A'' : Nat → Nat → Int32} (h : cE I A I' A') (h' : cE I' A' I'' A'') : cE I A I'' A'' := ⟨fun i hi => (h'.1 i hi).trans (h.1 i hi), fun k hk => (h'.2 k hk).trans (h.2 k hk)⟩
theorem mE.trans {J J' J'' : Nat → Int32} {B B' B'' : Nat → Nat → Int32} (h : mE J B J' B') (h' : mE J' B' J'' B'') : mE J B J'' B'' := ⟨⟨h'.1.1.trans h.1.1, h'.1.2.1.trans h.1.2.1, h'.1.2.2.trans h.1.2.2⟩, fun k hk => (h'.2 k hk).trans (h.2 k hk)⟩
theorem mE.J {J J' : Nat → Int32} {B : Nat → Nat → Int32} (h : mJ J J') : mE J B J' B := ⟨h, fun _ _ => rfl⟩
theorem mE.up {J : Nat → Int32} {B : Nat → Nat → Int32} {c : Nat} (f : Nat → Int32) (hc : bJ c) : mE J B J (upB B c f) := ⟨⟨rfl, rfl, rfl⟩, fun k hk => upB_ne (fun e => hk (e ▸ hc))⟩
theorem cE.up {I : Nat → Int32} {A : Nat → Nat → Int32} {c : Nat} (f : Nat → Int32) (hc : aJ c) : cE I A I (upB A c f) := ⟨fun _ _ => rfl, fun k hk => upB_ne (fun e => hk (e ▸ hc))⟩
theorem cE.upd {I : Nat → Int32} {A : Nat → Nat → Int32} {c : Nat} (v : Int32) (hc : iJ c) : cE I A (upd I c v) A := ⟨fun i hi => upd_ne (fun e => hi (e ▸ hc)), fun _ _ => rfl⟩
/-- what an operation owes -/
def OK (n : Nat) (S1 S2 : Option (Int32 × ab_W)) : Prop := ∃ r I A tp J B, S1 = some (r, cW I A tp) ∧ S2 = some (r, mW J B) ∧ RR (n + 1) I A J B
/-! updates that both sides do -/
theorem RR.err {n : Nat} {I J : Nat → Int32} {A B : Nat → Nat → Int32} (h : RR n I A J B) (k : Nat) (v : Int32) : RR n I (up2 A 1 k v) J (up2 B 5 k v) := by
  obtain ⟨h1, h2, h3, h4, h5, h6⟩ := h
  refine ⟨h1, fun q q1 q2 => ?_, fun s hs => by rw [up2_ne (A := A) (c := 1) (by omega)]; exact h3 s hs, h4, h5, h6⟩
  rw [up2_at, up2_at]
  by_cases e : q = k
  · subst e; rw [upd_same, upd_same]
  · rw [upd_ne e, upd_ne e]; exact h2 q q1 q2
theorem bnd_lt (i : Nat) : bnd i < 2 ^ 31 := by
  unfold bnd
  repeat' split
  all_goals decide
theorem RR.at {n : Nat} {I J : Nat → Int32} {A B : Nat → Nat → Int32} (h : RR n I A J B) {i : Nat} (hi : okI i) : I i = B 1 i := h.1.1 i hi
theorem RR.val {n : Nat} {I J : Nat → Int32} {A B : Nat → Nat → Int32} (h : RR n I A J B) {i : Nat} (hi : okI i) (h1 : i ≠ 1) : ∃ k, k ≤ bnd i ∧ B 1 i = nI k ∧ I i = nI k := by
  obtain ⟨k, k1, k2⟩ := h.1.2.2.2.1 i hi h1
  exact ⟨k, k1, k2, (h.1.1 i hi).trans k2⟩
/-- a number of the desk is written -/
theorem RR.desk {n : Nat} {I J : Nat → Int32} {A B : Nat → Nat → Int32} (h : RR n I A J B) {i : Nat} {v : Int32} (hi : okI i) (hv : i = 1 ∨ inN v (bnd i)) : RR n (upd I i v) A J (up2 B 1 i v) := by
  obtain ⟨⟨d1, d2, d3, d4, d5, d6⟩, h2, h3, h4, h5, g1, g2⟩ := h
  obtain ⟨i1, i2, i3⟩ := hi
  refine ⟨⟨fun q hq => ?_, fun j hj => ?_, fun j hj => ?_, fun q hq q1 => ?_, ?_, ?_⟩, h2, fun s hs => ?_, h4, ?_, ?_, ?_⟩
  · rw [up2_at]
    by_cases e : q = i
    · subst e; rw [upd_same, upd_same]
    · rw [upd_ne e, upd_ne e]; exact d1 q hq
  · rw [up2_at, upd_ne (by omega)]; exact d2 j hj
  · rw [up2_at, upd_ne (by omega)]; exact d3 j hj
  · rw [up2_at]
    by_cases e : q = i
    · subst e; rw [upd_same]; exact hv.resolve_left q1
    · rw [upd_ne e]; exact d4 q hq q1
  · obtain ⟨g, g1, g2, g3⟩ := d5
    refine ⟨g, g1, ?_, by rw [upd_ne (by omega)]; exact g3⟩
    rw [up2_at, upd_ne (by omega), show (fun j => upd (B 1) i v (126 + j)) = (fun j => B 1 (126 + j)) from funext fun j => upd_ne (by omega)]
    exact g2
  · obtain ⟨g, g1, g2, g3⟩ := d6
    refine ⟨g, g1, ?_, by rw [upd_ne (by omega)]; exact g3⟩
    rw [up2_at, upd_ne (by omega), show (fun j => upd (B 1) i v (176 + j)) = (fun j => B 1 (176 + j)) from funext fun j => upd_ne (by omega)]
    exact g2
  · rw [upd_ne (by omega), upd_ne (by omega)]
    exact h3 s hs
  · rw [upd_ne (by omega)]; exact h5
  · rw [upd_ne (by omega)]; exact g1
  · rcases g2 with g2 | ⟨g2, g3, g4⟩
    · exact Or.inl g2
    · exact Or.inr ⟨g2, g3, g4.congr (fun q hq => upd_ne (by omega))⟩
