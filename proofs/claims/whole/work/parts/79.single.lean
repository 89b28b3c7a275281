/-! ===== texts: reading, in both ===== -/
def bt (t : Nat → Int32) (e p : Nat) : Int32 := if p < e then t p else -1
def CSt (t : Nat → Int32) (e u : Nat) (I : Nat → Int32) (A : Nat → Nat → Int32) (p z : Nat) : Prop := I 420 = nI p ∧ I 421 = nI e ∧ I 422 = nI u ∧ I 423 = nI z ∧ z ≤ p ∧ ∀ j, j < 50 → A 19 j = t j
def MSt (t : Nat → Int32) (e u : Nat) (J : Nat → Int32) (B : Nat → Nat → Int32) (p o : Nat) : Prop := J 8 = nI p ∧ J 9 = nI e ∧ J 7 = nI u ∧ J 10 = nI o ∧ J 14 = 1 ∧ ∀ j, j < 50 → B 1 (126 + 50 * u + j) = t j
def CN (F : ab_W → Option (Int32 × ab_W)) (t : Nat → Int32) (e u p : Nat) (ok : Bool) (p' : Nat) (code : Nat → Int32) (ℓ : Nat) : Prop := ∀ I A z, CSt t e u I A p z → ∃ I' A' z', F (cW I A 19) = some (bI ok, cW I' A' 19) ∧ (∀ i, i ≠ 420 → i ≠ 423 → I' i = I i) ∧ (∀ k, k ≠ 60 → A' k = A k) ∧ (∀ j, j < z → A' 60 j = A 60 j) ∧ I' 420 = nI p' ∧ I' 423 = nI z' ∧ z' + p ≤ z + p' ∧ z ≤ z' ∧ (ok = true → z' = z + ℓ ∧ ∀ q, q < ℓ → A' 60 (z + q) = code q)
def MN (G : ab_W → Option (Int32 × ab_W)) (t : Nat → Int32) (e u o p : Nat) (ok : Bool) (p' : Nat) (val : Int32 → Int32 → Int32 → Int32) : Prop := ∀ J B, MSt t e u J B p o → ∃ v J', G (mW J B) = some (v, mW J' B) ∧ (∀ i, i ≠ 8 → i ≠ 14 → J' i = J i) ∧ J' 8 = nI p' ∧ J' 14 = bI ok ∧ (ok = true → v = val (J 11) (J 12) (J 13))
def NT (F G : ab_W → Option (Int32 × ab_W)) (t : Nat → Int32) (e u o p : Nat) : Prop := ∃ ok p' code ℓ val, p ≤ p' ∧ p' ≤ e ∧ CN F t e u p ok p' code ℓ ∧ MN G t e u o p ok p' val ∧ (ok = true → p < p' ∧ 1 ≤ ℓ ∧ RUN u code ℓ val)
section RD
variable {I J : Nat → Int32} {A B : Nat → Nat → Int32} {t : Nat → Int32} {e u o p z : Nat}
theorem c_next (he : e ≤ 50) (hp : p ≤ e) (h0 : I 420 = nI p) (h1 : I 421 = nI e) (ht : ∀ j, j < 50 → A 19 j = t j) : sX4_next 58 (cW I A 19) = some (bt t e p, cW I A 19) := by
  rw [sX4_next, if_pos (c_is58 I A 19), c_I58_1, Option.bind_some, h0, if_neg (nI_pos (by omega)), Option.bind_some, c_I58_3, Option.bind_some, h1, bt]
  by_cases h : p < e
  · rw [if_pos (nI_lt h (by omega)), if_pos h, c_R58_2, Option.bind_some, Option.bind_some, c_A19 I A 19 (by omega), Option.bind_some, ht p (by omega)]
  · rw [if_neg (nI_nlt (by omega) (by omega)), if_neg h]
theorem m_byte (he : e ≤ 50) (hu : u < 2) (hp : p ≤ e) (h9 : J 9 = nI e) (h7 : J 7 = nI u) (ht : ∀ j, j < 50 → B 1 (126 + 50 * u + j) = t j) : sX10_byteAt 0 (nI p) (mW J B) = some (bt t e p, mW J B) := by
  rw [sX10_byteAt, if_pos (m_is J B), m_I9, Option.bind_some, h9, bt]
  by_cases h : p < e
  · rw [if_pos (nI_lt h (by omega)), if_pos h, m_R0, Option.bind_some, m_I7, Option.bind_some, h7, show ((126 + 50 * nI u) + nI p : Int32) = nI (126 + 50 * u + p) from by rw [← nI_add, ← nI_add, ← pk_mul]; rfl, m_A1 J B (by omega), Option.bind_some, ht p (by omega)]
  · rw [if_neg (nI_nlt (by omega) (by omega)), if_neg h]
theorem c_digT {c : Int32} (h : inR c 48 57) (w : ab_W) : sX4_isDigit c w = some (1, w) := by
  obtain ⟨h1, h2⟩ := (inR_iff (by decide) (by decide)).mp h
  rw [sX4_isDigit, if_neg (show ¬ c < 48 from h1), if_neg (show ¬ 57 < c from h2)]; rfl
theorem c_digF {c : Int32} (h : ¬ inR c 48 57) (w : ab_W) : sX4_isDigit c w = some (0, w) := by
  rw [sX4_isDigit]
  by_cases h1 : c < 48
  · rw [if_pos h1]; rfl
  · rw [if_neg h1]
    by_cases h2 : 57 < c
    · rw [if_pos h2]; rfl
    · exact absurd ((inR_iff (lo := 48) (hi := 57) (by decide) (by decide)).mpr ⟨h1, h2⟩) h
theorem m_digT {c : Int32} (h : inR c 48 57) (w : ab_W) : sX10_isDigit c w = some (1, w) := by
  rw [sX10_isDigit, show sX10_in c 48 57 w = some (1, w) from m_in_T (lo := 48) (hi := 57) w (by decide) (by decide) h]; rfl
theorem m_digF {c : Int32} (h : ¬ inR c 48 57) (w : ab_W) : sX10_isDigit c w = some (0, w) := by
  rw [sX10_isDigit, show sX10_in c 48 57 w = some (0, w) from m_in_F (lo := 48) (hi := 57) w (by decide) (by decide) h]; rfl
theorem bt_neg (h : bt t e p ≠ -1) : p < e := by
  rcases Nat.lt_or_ge p e with h1 | h1
  · exact h1
  · exact absurd (by rw [bt, if_neg (by omega)]) h
theorem dig_lt (h : inR (bt t e p) 48 57) : p < e := bt_neg (fun e => by
  rw [e] at h
  obtain ⟨k, k1, k2, hk⟩ := h
  exact neg1 (by omega) hk.symm)
theorem num_step {n d : Nat} (hn : n < 1000) (hd : d < 10) : (10 * nI n + nI (48 + d) - 48 : Int32) = nI (10 * n + d) := by
  rw [show (10 * nI n : Int32) = nI (10 * n) from pk_mul 10 n, nI_add, show (48 : Int32) = nI 48 from rfl, pk_sub (by omega)]
  congr 1
  omega
theorem cm_num (he : e ≤ 50) (hu : u < 2) : ∀ (m i n p : Nat), i + m = 4 → n < 10 ^ i → p ≤ e → ∃ p' n', p ≤ p' ∧ p' ≤ e ∧ n' < 10000 ∧ (i < 4 → inR (bt t e p) 48 57 → p < p') ∧ (∀ kf I A, I 420 = nI p → I 421 = nI e → (∀ j, j < 50 → A 19 j = t j) → sX4_readNumber_4 (kf + m + 1) 58 (nI n) (nI i) (cW I A 19) = sX4_readNumber_48 58 (nI n') (cW (upd I 420 (nI p')) A 19)) ∧ (∀ kf J B, J 8 = nI p → J 9 = nI e → J 7 = nI u → (∀ j, j < 50 → B 1 (126 + 50 * u + j) = t j) → sX10_number_4 (kf + m + 1) 0 (nI n) (nI i) (mW J B) = some (nI n', mW (upd J 8 (nI p')) B)) := by
  intro m
  induction m with
  | zero =>
    intro i n p hi hn hp
    have : i = 4 := by omega
    subst this
    refine ⟨p, n, by omega, hp, hn, fun h => absurd h (by omega), fun kf I A h0 h1 ht => ?_, fun kf J B h8 h9 h7 ht => ?_⟩
    · rw [sX4_readNumber_4, if_neg (by decide), upd_self h0]
    · rw [sX10_number_4, if_neg (by decide), upd_self h8]
  | succ m ih =>
    intro i n p hi hn hp
    by_cases hd : inR (bt t e p) 48 57
    · have hpe := dig_lt hd
      obtain ⟨k, k1, k2, hk⟩ := hd
      have hd : inR (bt t e p) 48 57 := ⟨k, k1, k2, hk⟩
      have hn3 : n < 1000 := by
        have : 10 ^ i ≤ 10 ^ 3 := Nat.pow_le_pow_right (by decide) (by omega)
        omega
      have hn' : 10 * n + (k - 48) < 10 ^ (i + 1) := by rw [Nat.pow_succ]; omega
      obtain ⟨p', n', a1, a2, a3, a4, a5, a6⟩ := ih (i + 1) (10 * n + (k - 48)) (p + 1) (by omega) hn' (by omega)
      have es : (10 * nI n + bt t e p - 48 : Int32) = nI (10 * n + (k - 48)) := by
        rw [hk, show k = 48 + (k - 48) by omega, num_step hn3 (by omega)]
        congr 1
        omega
      refine ⟨p', n', by omega, a2, a3, fun _ _ => by omega, fun kf I A h0 h1 ht => ?_, fun kf J B h8 h9 h7 ht => ?_⟩
      · rw [show kf + (m + 1) + 1 = (kf + m + 1) + 1 by omega, sX4_readNumber_4, if_pos (show nI i < 4 from nI_lt (b := 4) (by omega) (by decide)), c_next he hp h0 h1 ht, ab_b2_some, c_digT hd, ab_b2_some, if_neg (by decide), c_next he hp h0 h1 ht, ab_b2_some, c_I58_1, Option.bind_some, h0, c_P58_1, Option.bind_some, nI_1, nI_1, es, a5 kf _ _ (upd_same _ _ _) ((upd_ne (by decide)).trans h1) ht, upd_upd]
      · rw [show kf + (m + 1) + 1 = (kf + m + 1) + 1 by omega, sX10_number_4, if_pos (show nI i < 4 from nI_lt (b := 4) (by omega) (by decide)), m_I8, Option.bind_some, h8, m_byte he hu hp h9 h7 ht, ab_b2_some, m_digT hd, ab_b2_some, if_neg (by decide), m_I8, Option.bind_some, h8, m_byte he hu hp h9 h7 ht, ab_b2_some, m_I8, Option.bind_some, h8, m_P8, Option.bind_some, nI_1, nI_1, es, a6 kf _ _ (upd_same _ _ _) ((upd_ne (by decide)).trans h9) ((upd_ne (by decide)).trans h7) ht, upd_upd]
    · refine ⟨p, n, by omega, hp, ?_, fun _ h => absurd h hd, fun kf I A h0 h1 ht => ?_, fun kf J B h8 h9 h7 ht => ?_⟩
      · have : 10 ^ i ≤ 10 ^ 4 := Nat.pow_le_pow_right (by decide) (by omega)
        omega
      · rw [show kf + (m + 1) + 1 = (kf + m + 1) + 1 by omega, sX4_readNumber_4, if_pos (show nI i < 4 from nI_lt (b := 4) (by omega) (by decide)), c_next he hp h0 h1 ht, ab_b2_some, c_digF hd, ab_b2_some, if_pos rfl, upd_self h0]
      · rw [show kf + (m + 1) + 1 = (kf + m + 1) + 1 by omega, sX10_number_4, if_pos (show nI i < 4 from nI_lt (b := 4) (by omega) (by decide)), m_I8, Option.bind_some, h8, m_byte he hu hp h9 h7 ht, ab_b2_some, m_digF hd, ab_b2_some, if_pos rfl, upd_self h8]
theorem c_add {x : Int32} (hz : z < 50) (h : I 423 = nI z) : sX2_add 59 x (cW I A 19) = some (cW (upd I 423 (nI (z + 1))) (up2 A 60 z x) 19) := by
  rw [sX2_add, if_pos (c_is59 I A 19), c_I59_2, Option.bind_some, h, if_pos (show nI z < 50 from nI_lt (b := 50) hz (by decide)), c_R59_0, Option.bind_some, Option.bind_some, c_S60 I A 19 x hz, Option.bind_some, c_I59_2, Option.bind_some, h, c_P59_2, Option.bind_some, nI_1]
theorem nt_num {S : Nat} {Mf : Nat} (he : e ≤ 50) (hu : u < 2) (hp : p ≤ e) (hd : inR (bt t e p) 48 57) : NT (fun w => sX4_readSingle (S + 1) 58 (nI o) w) (fun w => sX10_factor (Mf + 1) 0 w) t e u o p := by
  obtain ⟨p', n', a1, a2, a3, a4, a5, a6⟩ := cm_num (t := t) he hu 4 0 0 p rfl (by decide) hp
  have hlt := a4 (by decide) hd
  refine ⟨true, p', fun _ => nI n', 1, fun _ _ _ => nI n', by omega, a2, fun I A z hS => ?_, fun J B hS => ?_, fun _ => ⟨hlt, Nat.le_refl _, run_num hu a3⟩⟩
  · obtain ⟨h0, h1, h2, h3, h4, ht⟩ := hS
    refine ⟨upd (upd I 420 (nI p')) 423 (nI (z + 1)), up2 A 60 z (nI n'), z + 1, ?_, fun i p q => by rw [upd_ne q, upd_ne p], fun k hk => up2_ne hk, fun j hj => by rw [up2_at, upd_ne (by omega)], by rw [upd_ne (by decide), upd_same], upd_same _ _ _, by omega, by omega, fun _ => ⟨rfl, fun q hq => by rw [show z + q = z by omega, up2_at, upd_same]⟩⟩
    show sX4_readSingle (S + 1) 58 (nI o) (cW I A 19) = _
    rw [sX4_readSingle_s, bX4_readSingle, if_pos (c_is58 I A 19), c_next he hp h0 h1 ht, ab_b2_some, c_digT hd, ab_b2_some, if_neg (by decide), sX4_readNumber, if_pos (c_is58 I A 19), show sX4_readNumber_4 1000 58 0 0 (cW I A 19) = _ from a5 995 I A h0 h1 ht, sX4_readNumber_48, c_R58_0, Option.bind_some, c_add (z := z) (by omega) ((upd_ne (by decide)).trans h3)]
    rfl
  · obtain ⟨h8, h9, h7, h10, h14, ht⟩ := hS
    refine ⟨nI n', upd J 8 (nI p'), ?_, fun i p q => upd_ne p, upd_same _ _ _, (upd_ne (by decide)).trans h14, fun _ => rfl⟩
    show sX10_factor (Mf + 1) 0 (mW J B) = _
    rw [sX10_factor_s, bX10_factor, if_pos (m_is J B), m_I8, Option.bind_some, h8, m_byte he hu hp h9 h7 ht, ab_b2_some, m_digT hd, ab_b2_some, if_neg (by decide), ab_b2_eta, sX10_number, if_pos (m_is J B)]
    exact a6 995 J B h8 h9 h7 ht
end RD
