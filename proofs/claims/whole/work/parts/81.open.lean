section RD
variable {I J : Nat → Int32} {A B : Nat → Nat → Int32} {t : Nat → Int32} {e u o p z : Nat}
theorem nt_full {S Mf : Nat} (he : e ≤ 50) (hu : u < 2) (hp : p ≤ e) (h : bt t e p = 33 ∨ bt t e p = 40) : NT (fun w => sX4_readSingle (S + 1) 58 (nI 5) w) (fun w => sX10_factor (Mf + 1) 0 w) t e u 5 p := by
  have hd : ¬ inR (bt t e p) 48 57 := fun ⟨k, k1, k2, hk⟩ => by
    rcases h with h | h
    · rw [h] at hk; have := (nI_eq (a := 33) (b := k) (by omega) (by omega)).mp hk; omega
    · rw [h] at hk; have := (nI_eq (a := 40) (b := k) (by omega) (by omega)).mp hk; omega
  refine ⟨false, p, fun _ => 0, 0, fun _ _ _ => 0, Nat.le_refl _, hp, fun I A z hS => ?_, fun J B hS => ?_, fun h => absurd h (by decide)⟩
  · obtain ⟨h0, h1, h2, h3, h4, ht⟩ := hS
    refine ⟨I, A, z, ?_, fun _ _ _ => rfl, fun _ _ => rfl, fun _ _ => rfl, h0, h3, by omega, Nat.le_refl _, fun h => absurd h (by decide)⟩
    show sX4_readSingle (S + 1) 58 (nI 5) (cW I A 19) = _
    rw [sX4_readSingle_s, bX4_readSingle, if_pos (c_is58 I A 19), c_next he hp h0 h1 ht, ab_b2_some, c_digF hd, ab_b2_some, if_pos rfl]
    rcases h with h | h
    · rw [if_pos h, sX4_readSingle_30, if_neg (by decide)]; rfl
    · rw [if_neg (by rw [h]; decide), if_pos h, sX4_readSingle_30, if_neg (by decide)]; rfl
  · obtain ⟨h8, h9, h7, h10, h14, ht⟩ := hS
    refine ⟨0, upd J 14 0, ?_, fun i a b => upd_ne b, (upd_ne (by decide)).trans h8, upd_same _ _ _, fun h => absurd h (by decide)⟩
    show sX10_factor (Mf + 1) 0 (mW J B) = _
    rw [sX10_factor_s, bX10_factor, if_pos (m_is J B), m_I8, Option.bind_some, h8, m_byte he hu hp h9 h7 ht, ab_b2_some, m_digF hd, ab_b2_some, if_pos rfl]
    rcases h with h | h
    · rw [if_pos h, sX10_factor_39, m_I10, Option.bind_some, h10, if_pos (show nI 5 = 5 from rfl), ab_b2_eta, m_fails]
    · rw [if_neg (by rw [h]; decide), if_pos h, sX10_factor_39, m_I10, Option.bind_some, h10, if_pos (show nI 5 = 5 from rfl), ab_b2_eta, m_fails]
theorem bool_b (b : Bool) (w : ab_W) : ((ab_bool (bI b)).bind fun y => some (y, w)) = some (bI b, w) := by cases b <;> rfl
theorem c_again (b : Bool) (w : ab_W) : (if bI b = 0 then ((ab_bool 0).bind fun y => some (y, w)) else ((ab_bool 1).bind fun y => some (y, w))) = some (bI b, w) := by cases b <;> rfl
theorem nt_not {S Mf : Nat} (he : e ≤ 50) (hu : u < 2) (ho : o < 5) (hp : p ≤ e) (h : bt t e p = 33) (HS : ∀ p, p ≤ e → NT (fun w => sX4_readSingle S 58 (nI (o + 1)) w) (fun w => sX10_factor Mf 0 w) t e u (o + 1) p) : NT (fun w => sX4_readSingle (S + 2) 58 (nI o) w) (fun w => sX10_factor (Mf + 1) 0 w) t e u o p := by
  have hd : ¬ inR (bt t e p) 48 57 := fun ⟨k, k1, k2, hk⟩ => by
    rw [h] at hk; have := (nI_eq (a := 33) (b := k) (by omega) (by omega)).mp hk; omega
  have hpe : p < e := bt_neg (by rw [h]; decide)
  obtain ⟨ok, p', code, ℓ, val, b1, b2, hC, hM, hR⟩ := HS (p + 1) (by omega)
  refine ⟨ok, p', cat code ℓ (fun _ => 20033), ℓ + 1, fun a b c => if val a b c = 0 then 1 else 0, by omega, b2, fun I A z hS => ?_, fun J B hS => ?_, fun hok => ⟨by omega, by omega, run_not hu (hR hok).2.2⟩⟩
  · obtain ⟨h0, h1, h2, h3, h4, ht⟩ := hS
    obtain ⟨I', A', z', f0, f1, f2, f3, f4, f5, f6, f7, f8⟩ := hC (upd I 420 (nI (p + 1))) A z ⟨upd_same _ _ _, (upd_ne (by decide)).trans h1, (upd_ne (by decide)).trans h2, (upd_ne (by decide)).trans h3, by omega, ht⟩
    refine ⟨upd I' 423 (nI (z' + 1)), up2 A' 60 z' 20033, z' + 1, ?_, fun i a b => by rw [upd_ne b, f1 i a b, upd_ne a], fun k hk => by rw [up2_ne hk]; exact f2 k hk, fun j hj => by rw [up2_at, upd_ne (by omega)]; exact f3 j hj, by rw [upd_ne (by decide)]; exact f4, upd_same _ _ _, by omega, by omega, fun hok => ?_⟩
    · show sX4_readSingle (S + 2) 58 (nI o) (cW I A 19) = _
      rw [sX4_readSingle_s, bX4_readSingle, if_pos (c_is58 I A 19), c_next he hp h0 h1 ht, ab_b2_some, c_digF hd, ab_b2_some, if_pos rfl, if_pos h, sX4_readSingle_30, if_pos (show nI o < 5 from nI_lt (b := 5) ho (by decide)), nI_1, sX4_readInside_s, bX4_readInside, if_pos (c_is58 I A 19), c_I58_1, Option.bind_some, h0, c_P58_1, Option.bind_some, nI_1, if_pos h, show sX4_readSingle S 58 (nI (o + 1)) (cW (upd I 420 (nI (p + 1))) A 19) = _ from f0, ab_b2_some, c_R58_0, Option.bind_some, c_add (z := z') (by omega) f5, Option.bind_some, bool_b, ab_b2_some, c_again]
    · obtain ⟨g1, g2⟩ := f8 hok
      refine ⟨by omega, fun q hq => ?_⟩
      rw [up2_at]
      by_cases hq2 : q = ℓ
      · subst hq2
        rw [← g1, upd_same, cat, if_neg (by omega)]
      · rw [upd_ne (by omega), g2 q (by omega), cat, if_pos (by omega)]
  · obtain ⟨h8, h9, h7, h10, h14, ht⟩ := hS
    obtain ⟨v, J', f0, f1, f2, f3, f4⟩ := hM (upd (upd J 10 (nI (o + 1))) 8 (nI (p + 1))) B ⟨upd_same _ _ _, by rw [upd_ne (by decide), upd_ne (by decide)]; exact h9, by rw [upd_ne (by decide), upd_ne (by decide)]; exact h7, by rw [upd_ne (by decide), upd_same], by rw [upd_ne (by decide), upd_ne (by decide)]; exact h14, ht⟩
    have j10 : J' 10 = nI (o + 1) := by rw [f1 10 (by decide) (by decide), upd_ne (by decide), upd_same]
    refine ⟨if v = 0 then 1 else 0, upd J' 10 (nI o), ?_, fun i a b => ?_, (upd_ne (by decide)).trans f2, (upd_ne (by decide)).trans f3, fun hok => ?_⟩
    · show sX10_factor (Mf + 1) 0 (mW J B) = _
      rw [sX10_factor_s, bX10_factor, if_pos (m_is J B), m_I8, Option.bind_some, h8, m_byte he hu hp h9 h7 ht, ab_b2_some, m_digF hd, ab_b2_some, if_pos rfl, if_pos h, sX10_factor_39, m_I10, Option.bind_some, h10, if_neg (show ¬ nI o = 5 from fun e => by have := (nI_eq (b := 5) (by omega) (by decide)).mp e; omega), Option.bind_some, m_P10, Option.bind_some, m_I8, Option.bind_some, upd_ne (by decide), h8, m_P8, Option.bind_some, nI_1, nI_1, if_pos h, show sX10_factor Mf 0 (mW (upd (upd J 10 (nI (o + 1))) 8 (nI (p + 1))) B) = _ from f0, ab_b2_some, sX10_factor_89, m_I10, Option.bind_some, j10, m_P10, Option.bind_some, if_pos h, show (nI (o + 1) - 1 : Int32) = nI o from nI_pred o]
      by_cases hv : v = 0
      · rw [if_pos hv, if_pos hv]
      · rw [if_neg hv, if_neg hv]
    · by_cases e10 : i = 10
      · subst e10; rw [upd_same, h10]
      · rw [upd_ne e10, f1 i a b, upd_ne a, upd_ne e10]
    · have := f4 hok
      simp (disch := decide) only [upd_ne] at this
      rw [this]
theorem nt_paren {S Mf : Nat} (he : e ≤ 50) (hu : u < 2) (ho : o < 5) (hp : p ≤ e) (h : bt t e p = 40) (HL : ∀ p, p ≤ e → NT (fun w => sX4_readLevel S 58 0 (nI (o + 1)) w) (fun w => sX10_whole Mf 0 w) t e u (o + 1) p) : NT (fun w => sX4_readSingle (S + 2) 58 (nI o) w) (fun w => sX10_factor (Mf + 1) 0 w) t e u o p := by
  have hd : ¬ inR (bt t e p) 48 57 := fun ⟨k, k1, k2, hk⟩ => by
    rw [h] at hk; have := (nI_eq (a := 40) (b := k) (by omega) (by omega)).mp hk; omega
  have h33 : ¬ bt t e p = 33 := by rw [h]; decide
  have hpe : p < e := bt_neg (by rw [h]; decide)
  obtain ⟨ok, p', code, ℓ, val, b1, b2, hC, hM, hR⟩ := HL (p + 1) (by omega)
  have ec : ∀ I A z, CSt t e u I A p z → ∃ I' A' z', sX4_readSingle (S + 2) 58 (nI o) (cW I A 19) = ab_b2 (if bI ok = 0 then ((ab_bool 0).bind fun y => some (y, cW I' A' 19)) else ab_b2 (sX4_next 58 (cW I' A' 19)) fun v9 w10 => if v9 = 41 then (ab_getI w10 4 58 1).bind fun v11 => (ab_putI w10 4 58 1 (v11 + 1)).bind fun w12 => (ab_bool 1).bind fun y => some (y, w12) else (ab_bool 0).bind fun y => some (y, w10)) (fun v1 w2 => if v1 = 0 then (ab_bool 0).bind fun y => some (y, w2) else (ab_bool 1).bind fun y => some (y, w2)) ∧ (∀ i, i ≠ 420 → i ≠ 423 → I' i = I i) ∧ (∀ k, k ≠ 60 → A' k = A k) ∧ (∀ j, j < z → A' 60 j = A 60 j) ∧ I' 420 = nI p' ∧ I' 423 = nI z' ∧ z' + (p + 1) ≤ z + p' ∧ z ≤ z' ∧ (ok = true → z' = z + ℓ ∧ ∀ q, q < ℓ → A' 60 (z + q) = code q) := fun I A z hS => by
    obtain ⟨h0, h1, h2, h3, h4, ht⟩ := hS
    obtain ⟨I', A', z', f0, f1, f2, f3, f4, f5, f6, f7, f8⟩ := hC (upd I 420 (nI (p + 1))) A z ⟨upd_same _ _ _, (upd_ne (by decide)).trans h1, (upd_ne (by decide)).trans h2, (upd_ne (by decide)).trans h3, by omega, ht⟩
    refine ⟨I', A', z', ?_, fun i a b => (f1 i a b).trans (upd_ne a), f2, f3, f4, f5, f6, f7, f8⟩
    rw [sX4_readSingle_s, bX4_readSingle, if_pos (c_is58 I A 19), c_next he hp h0 h1 ht, ab_b2_some, c_digF hd, ab_b2_some, if_pos rfl, if_neg h33, if_pos h, sX4_readSingle_30, if_pos (show nI o < 5 from nI_lt (b := 5) ho (by decide)), nI_1, sX4_readInside_s, bX4_readInside, if_pos (c_is58 I A 19), c_I58_1, Option.bind_some, h0, c_P58_1, Option.bind_some, nI_1, if_neg h33, show sX4_readLevel S 58 0 (nI (o + 1)) (cW (upd I 420 (nI (p + 1))) A 19) = _ from f0, ab_b2_some]
  have em : ∀ J B, MSt t e u J B p o → ∃ v J', sX10_factor (Mf + 1) 0 (mW J B) = (if bI ok = 0 then some (0, mW (upd (upd J' 10 (nI o)) 14 0) B) else if bt t e p' = 41 then some (v, mW (upd (upd J' 10 (nI o)) 8 (nI (p' + 1))) B) else some (0, mW (upd (upd J' 10 (nI o)) 14 0) B)) ∧ (∀ i, i ≠ 8 → i ≠ 14 → i ≠ 10 → J' i = J i) ∧ J 10 = nI o ∧ J' 8 = nI p' ∧ J' 14 = bI ok ∧ (ok = true → v = val (J 11) (J 12) (J 13)) := fun J B hS => by
    obtain ⟨h8, h9, h7, h10, h14, ht⟩ := hS
    obtain ⟨v, J', f0, f1, f2, f3, f4⟩ := hM (upd (upd J 10 (nI (o + 1))) 8 (nI (p + 1))) B ⟨upd_same _ _ _, by rw [upd_ne (by decide), upd_ne (by decide)]; exact h9, by rw [upd_ne (by decide), upd_ne (by decide)]; exact h7, by rw [upd_ne (by decide), upd_same], by rw [upd_ne (by decide), upd_ne (by decide)]; exact h14, ht⟩
    have j10 : J' 10 = nI (o + 1) := by rw [f1 10 (by decide) (by decide), upd_ne (by decide), upd_same]
    have j9 : J' 9 = nI e := by rw [f1 9 (by decide) (by decide), upd_ne (by decide), upd_ne (by decide)]; exact h9
    have j7 : J' 7 = nI u := by rw [f1 7 (by decide) (by decide), upd_ne (by decide), upd_ne (by decide)]; exact h7
    refine ⟨v, J', ?_, fun i a b c => by rw [f1 i a b, upd_ne a, upd_ne c], h10, f2, f3, fun hok => by
      have := f4 hok
      simp (disch := decide) only [upd_ne] at this
      exact this⟩
    rw [sX10_factor_s, bX10_factor, if_pos (m_is J B), m_I8, Option.bind_some, h8, m_byte he hu hp h9 h7 ht, ab_b2_some, m_digF hd, ab_b2_some, if_pos rfl, if_neg h33, if_pos h, sX10_factor_39, m_I10, Option.bind_some, h10, if_neg (show ¬ nI o = 5 from fun e => by have := (nI_eq (b := 5) (by omega) (by decide)).mp e; omega), Option.bind_some, m_P10, Option.bind_some, m_I8, Option.bind_some, upd_ne (by decide), h8, m_P8, Option.bind_some, nI_1, nI_1, if_neg h33, show sX10_whole Mf 0 (mW (upd (upd J 10 (nI (o + 1))) 8 (nI (p + 1))) B) = _ from f0, ab_b2_some, sX10_factor_89, m_I10, Option.bind_some, j10, m_P10, Option.bind_some, if_neg h33, show (nI (o + 1) - 1 : Int32) = nI o from nI_pred o, m_I14, Option.bind_some, upd_ne (by decide), f3]
    cases ok
    · rw [if_pos (by decide), if_pos (by decide), sX10_factor_148, ab_b2_eta, m_fails]
    · rw [if_neg (by decide), if_neg (by decide), m_I8, Option.bind_some, upd_ne (by decide), f2, m_byte he hu b2 ((upd_ne (by decide)).trans j9) ((upd_ne (by decide)).trans j7) ht, ab_b2_some]
      by_cases h41 : bt t e p' = 41
      · rw [if_pos h41, if_pos h41, m_I8, Option.bind_some, upd_ne (by decide), f2, m_P8, Option.bind_some, nI_1]
      · rw [if_neg h41, if_neg h41, sX10_factor_148, ab_b2_eta, m_fails]
  have bad : (ok = true → bt t e p' ≠ 41) → NT (fun w => sX4_readSingle (S + 2) 58 (nI o) w) (fun w => sX10_factor (Mf + 1) 0 w) t e u o p := fun hno => by
    refine ⟨false, p', fun _ => 0, 0, fun _ _ _ => 0, by omega, b2, fun I A z hS => ?_, fun J B hS => ?_, fun h => absurd h (by decide)⟩
    · obtain ⟨I', A', z', f0, f1, f2, f3, f4, f5, f6, f7, f8⟩ := ec I A z hS
      obtain ⟨h0, h1, h2, h3, h4, ht⟩ := hS
      refine ⟨I', A', z', ?_, f1, f2, f3, f4, f5, by omega, f7, fun h => absurd h (by decide)⟩
      show sX4_readSingle (S + 2) 58 (nI o) (cW I A 19) = _
      rw [f0]
      cases ok
      · rfl
      · rw [if_neg (by decide), c_next (t := t) he b2 f4 ((f1 421 (by decide) (by decide)).trans h1) (fun j hj => by rw [f2 19 (by decide)]; exact ht j hj), ab_b2_some, if_neg (hno rfl)]
        rfl
    · obtain ⟨v, J', f0, f1, f2, f3, f4, f5⟩ := em J B hS
      refine ⟨0, upd (upd J' 10 (nI o)) 14 0, ?_, fun i a b => ?_, by rw [upd_ne (by decide), upd_ne (by decide)]; exact f3, upd_same _ _ _, fun h => absurd h (by decide)⟩
      · show sX10_factor (Mf + 1) 0 (mW J B) = _
        rw [f0]
        cases ok
        · rfl
        · rw [if_neg (by decide), if_neg (hno rfl)]
      · rw [upd_ne b]
        by_cases e10 : i = 10
        · subst e10; rw [upd_same, f2]
        · rw [upd_ne e10]; exact f1 i a b e10
  cases hok : ok
  · exact bad (fun h => by rw [hok] at h; exact absurd h (by decide))
  · by_cases h41 : bt t e p' = 41
    · subst hok
      have hp'e : p' < e := bt_neg (by rw [h41]; decide)
      obtain ⟨r1, r2, r3⟩ := hR rfl
      refine ⟨true, p' + 1, code, ℓ, val, by omega, by omega, fun I A z hS => ?_, fun J B hS => ?_, fun _ => ⟨by omega, r2, r3⟩⟩
      · obtain ⟨I', A', z', f0, f1, f2, f3, f4, f5, f6, f7, f8⟩ := ec I A z hS
        obtain ⟨h0, h1, h2, h3, h4, ht⟩ := hS
        refine ⟨upd I' 420 (nI (p' + 1)), A', z', ?_, fun i a b => (upd_ne a).trans (f1 i a b), f2, f3, upd_same _ _ _, (upd_ne (by decide)).trans f5, by omega, f7, f8⟩
        show sX4_readSingle (S + 2) 58 (nI o) (cW I A 19) = _
        rw [f0, if_neg (by decide), c_next (t := t) he b2 f4 ((f1 421 (by decide) (by decide)).trans h1) (fun j hj => by rw [f2 19 (by decide)]; exact ht j hj), ab_b2_some, if_pos h41, c_I58_1, Option.bind_some, f4, c_P58_1, Option.bind_some, nI_1]
        rfl
      · obtain ⟨v, J', f0, f1, f2, f3, f4, f5⟩ := em J B hS
        refine ⟨v, upd (upd J' 10 (nI o)) 8 (nI (p' + 1)), ?_, fun i a b => ?_, upd_same _ _ _, by rw [upd_ne (by decide), upd_ne (by decide)]; exact f4, fun _ => f5 rfl⟩
        · show sX10_factor (Mf + 1) 0 (mW J B) = _
          rw [f0, if_neg (by decide), if_pos h41]
        · rw [upd_ne a]
          by_cases e10 : i = 10
          · subst e10; rw [upd_same, f2]
          · rw [upd_ne e10]; exact f1 i a b e10
    · exact bad (fun _ => h41)
end RD
