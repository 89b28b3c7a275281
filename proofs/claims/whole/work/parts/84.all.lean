section RD
variable {I J : Nat → Int32} {A B : Nat → Nat → Int32} {t : Nat → Int32} {e u o p z : Nat}
theorem nt_compare {S M : Nat} (he : e ≤ 50) (hu : u < 2) (H : ∀ p, p ≤ e → NT (fun w => sX4_readLevel S 58 (nI 3) (nI o) w) (fun w => sX10_sum M 0 w) t e u o p) (hp : p ≤ e) : NT (fun w => sX4_readLevel (S + 1) 58 (nI 2) (nI o) w) (fun w => sX10_compared (M + 1) 0 w) t e u o p := by
  have eL : ∀ I A, sX4_readLevel (S + 1) 58 (nI 2) (nI o) (cW I A 19) = ab_b2 (sX4_readLevel S 58 (nI 3) (nI o) (cW I A 19)) fun v1 w2 => if v1 = 0 then (ab_bool 0).bind fun y => some (y, w2) else sX4_readLevel_39 (sX4_readLevel S) (sX4_readSingle S) 1000 58 (nI 2) (nI o) 1 0 w2 := fun I A => by
    rw [sX4_readLevel_s, bX4_readLevel, if_pos (c_is58 I A 19), if_pos (show nI 2 < 5 from nI_lt (b := 5) (by decide) (by decide)), nI_1]
    rfl
  have eM : ∀ J B, sX10_compared (M + 1) 0 (mW J B) = ab_b2 (sX10_sum M 0 (mW J B)) fun v1 w2 => (ab_getI w2 10 0 14).bind fun v3 => if v3 = 0 then sX10_compared_24 (sX10_sum M) 0 v1 (-1) w2 else (ab_getI w2 10 0 8).bind fun v4 => ab_b2 (sX10_byteAt 0 v4 w2) fun v5 w6 => sX10_compared_24 (sX10_sum M) 0 v1 v5 w6 := fun J B => by
    rw [sX10_compared_s, bX10_compared, if_pos (m_is J B)]
  obtain ⟨ok1, p1, code1, ℓ1, val1, b1, b2, hC, hM, hR⟩ := H p hp
  cases hok : ok1
  · subst hok
    refine ⟨false, p1, fun _ => 0, 0, fun _ _ _ => 0, b1, b2, fun I A z hS => ?_, fun J B hS => ?_, fun h => absurd h (by decide)⟩
    · obtain ⟨I', A', z', f0, f1, f2, f3, f4, f5, f6, f7, -⟩ := hC I A z hS
      refine ⟨I', A', z', ?_, f1, f2, f3, f4, f5, f6, f7, fun h => absurd h (by decide)⟩
      show sX4_readLevel (S + 1) 58 (nI 2) (nI o) (cW I A 19) = _
      rw [eL, show sX4_readLevel S 58 (nI 3) (nI o) (cW I A 19) = _ from f0]; rfl
    · obtain ⟨v, J', f0, f1, f2, f3, -⟩ := hM J B hS
      refine ⟨v, J', ?_, f1, f2, f3, fun h => absurd h (by decide)⟩
      show sX10_compared (M + 1) 0 (mW J B) = _
      rw [eM, show sX10_sum M 0 (mW J B) = _ from f0, ab_b2_some, m_I14, Option.bind_some, f3, if_pos (by decide)]; rfl
  · subst hok
    obtain ⟨r1, r2, r3⟩ := hR rfl
    -- what both hold behind the first operand
    have C1 : ∀ I A z, CSt t e u I A p z → ∃ I1 A1, sX4_readLevel (S + 1) 58 (nI 2) (nI o) (cW I A 19) = sX4_readLevel_39 (sX4_readLevel S) (sX4_readSingle S) (999 + 1) 58 (nI 2) (nI o) 1 (nI 0) (cW I1 A1 19) ∧ CSt t e u I1 A1 p1 (z + ℓ1) ∧ (∀ q, q < ℓ1 → A1 60 (z + q) = code1 q) ∧ (∀ i, i ≠ 420 → i ≠ 423 → I1 i = I i) ∧ (∀ k, k ≠ 60 → A1 k = A k) ∧ (∀ j, j < z → A1 60 j = A 60 j) ∧ z + ℓ1 + p ≤ z + p1 := fun I A z hS => by
      obtain ⟨I1, A1, z1, f0, f1, f2, f3, f4, f5, f6, f7, f8⟩ := hC I A z hS
      obtain ⟨g1, g2⟩ := f8 rfl
      obtain ⟨h0, h1, h2, h3, h4, ht⟩ := hS
      refine ⟨I1, A1, ?_, ⟨f4, (f1 421 (by decide) (by decide)).trans h1, (f1 422 (by decide) (by decide)).trans h2, by rw [f5, g1], by omega, fun j hj => by rw [f2 19 (by decide)]; exact ht j hj⟩, g2, f1, f2, f3, by omega⟩
      rw [eL, show sX4_readLevel S 58 (nI 3) (nI o) (cW I A 19) = _ from f0, ab_b2_some, if_neg (by decide)]
      rfl
    have M1 : ∀ J B, MSt t e u J B p o → ∃ J1, sX10_compared (M + 1) 0 (mW J B) = sX10_compared_24 (sX10_sum M) 0 (val1 (J 11) (J 12) (J 13)) (bt t e p1) (mW J1 B) ∧ MSt t e u J1 B p1 o ∧ (∀ i, i ≠ 8 → i ≠ 14 → J1 i = J i) := fun J B hS => by
      obtain ⟨v, J1, f0, f1, f2, f3, f4⟩ := hM J B hS
      obtain ⟨h8, h9, h7, h10, h14, ht⟩ := hS
      refine ⟨J1, ?_, ⟨f2, (f1 9 (by decide) (by decide)).trans h9, (f1 7 (by decide) (by decide)).trans h7, (f1 10 (by decide) (by decide)).trans h10, f3, ht⟩, f1⟩
      rw [eM, show sX10_sum M 0 (mW J B) = _ from f0, ab_b2_some, m_I14, Option.bind_some, f3, if_neg (by decide), m_I8, Option.bind_some, f2, m_byte he hu b2 ((f1 9 (by decide) (by decide)).trans h9) ((f1 7 (by decide) (by decide)).trans h7) ht, ab_b2_some, f4 rfl]
    by_cases hlv : lv (bt t e p1) = 2
    · have hpe : p1 < e := bt_neg (fun h => by rw [h] at hlv; exact absurd hlv (by decide))
      have hs : bt t e p1 = 60 ∨ bt t e p1 = 61 ∨ bt t e p1 = 62 := by
        rcases lv_cases (bt t e p1) with h | h | h | h | h | h | h | h | h | h | h
        all_goals first | (exact Or.inl h.1) | (exact Or.inr (Or.inl h.1)) | (exact Or.inr (Or.inr h.1)) | (exfalso; have := h.2; omega) | (exfalso; have := h.1; omega)
      obtain ⟨ok2, p2, code2, ℓ2, val2, d1, d2, dC, dM, dR⟩ := H (p1 + 1) (by omega)
      have M2 : ∀ J B, MSt t e u J B p o → ∃ r J2, sX10_compared (M + 1) 0 (mW J B) = some (jn (bt t e p1) (val1 (J 11) (J 12) (J 13)) r, mW J2 B) ∧ (∀ i, i ≠ 8 → i ≠ 14 → J2 i = J i) ∧ J2 8 = nI p2 ∧ J2 14 = bI ok2 ∧ (ok2 = true → r = val2 (J 11) (J 12) (J 13)) := fun J B hS => by
        obtain ⟨J1, k0, k1, k2⟩ := M1 J B hS
        obtain ⟨r, J2, f0, f1, f2, f3, f4⟩ := m_step dM k1
        refine ⟨r, J2, ?_, fun i a b => (f1 i a b).trans (k2 i a b), f2, f3, fun hok => by
          have := (f4 hok).1
          rw [k2 11 (by decide) (by decide), k2 12 (by decide) (by decide), k2 13 (by decide) (by decide)] at this
          exact this⟩
        have e45 : sX10_compared_45 (sX10_sum M) 0 (val1 (J 11) (J 12) (J 13)) (bt t e p1) (mW J1 B) = some (jn (bt t e p1) (val1 (J 11) (J 12) (J 13)) r, mW J2 B) := by
          rw [sX10_compared_45, m_I8, Option.bind_some, k1.1, m_P8, Option.bind_some, nI_1, show sX10_sum M 0 (mW (upd J1 8 (nI (p1 + 1))) B) = _ from f0, ab_b2_some]
          generalize val1 (J 11) (J 12) (J 13) = l
          rcases hs with hs | hs | hs
          · rw [hs, if_pos rfl, show jn 60 l r = if l < r then 1 else 0 from rfl]
            by_cases hlt : l < r
            · rw [if_pos hlt, if_pos hlt]; rfl
            · rw [if_neg hlt, if_neg hlt]; rfl
          · rw [hs, if_neg (by decide), if_pos rfl, show jn 61 l r = if l = r then 1 else 0 from rfl]
            by_cases hlt : l = r
            · rw [if_pos hlt, if_pos hlt]; rfl
            · rw [if_neg hlt, if_neg hlt]; rfl
          · rw [hs, if_neg (by decide), if_neg (by decide), show jn 62 l r = if r < l then 1 else 0 from rfl]
            by_cases hlt : r < l
            · rw [if_pos hlt, if_pos hlt]; rfl
            · rw [if_neg hlt, if_neg hlt]; rfl
        rw [k0, sX10_compared_24]
        rcases hs with hs | hs | hs
        · rw [if_pos hs]; exact e45
        · rw [if_neg (by rw [hs]; decide), if_pos hs]; exact e45
        · rw [if_neg (by rw [hs]; decide), if_neg (by rw [hs]; decide), if_pos hs]; exact e45
      cases hok : ok2
      · subst hok
        refine ⟨false, p2, fun _ => 0, 0, fun _ _ _ => 0, by omega, d2, fun I A z hS => ?_, fun J B hS => ?_, fun h => absurd h (by decide)⟩
        · obtain ⟨I1, A1, k0, k1, k2, k3, k4, k5, k6⟩ := C1 I A z hS
          obtain ⟨I2, A2, z2, f0, f1, f2, f3, f4, f5, f6, f7, -⟩ := c_step (L := 2) he (by decide) hpe d2 hlv dC k1 k2
          refine ⟨I2, A2, z2, ?_, fun i a b => (f1 i a b).trans (k3 i a b), fun k hk => (f2 k hk).trans (k4 k hk), fun j hj => (f3 j (by omega)).trans (k5 j hj), f4, f5, by omega, by omega, fun h => absurd h (by decide)⟩
          show sX4_readLevel (S + 1) 58 (nI 2) (nI o) (cW I A 19) = _
          rw [k0, f0 999 0 1 (by decide), if_pos (by decide)]
          rfl
        · obtain ⟨r, J2, f0, f1, f2, f3, -⟩ := M2 J B hS
          exact ⟨_, J2, f0, f1, f2, f3, fun h => absurd h (by decide)⟩
      · subst hok
        obtain ⟨s1, s2, s3⟩ := dR rfl
        refine ⟨true, p2, cat (cat code1 ℓ1 code2) (ℓ1 + ℓ2) (fun _ => 20000 + bt t e p1), ℓ1 + ℓ2 + 1, fun a b c => jn (bt t e p1) (val1 a b c) (val2 a b c), by omega, d2, fun I A z hS => ?_, fun J B hS => ?_, fun _ => ⟨by omega, by omega, run_join hu (by omega) r2 s2 r3 s3⟩⟩
        · obtain ⟨I1, A1, k0, k1, k2, k3, k4, k5, k6⟩ := C1 I A z hS
          obtain ⟨I2, A2, z2, f0, f1, f2, f3, f4, f5, f6, f7, f8⟩ := c_step (L := 2) he (by decide) hpe d2 hlv dC k1 k2
          obtain ⟨g1, g2, g3⟩ := f8 rfl
          refine ⟨_, _, z2 + 1, ?_, fun i a b => by rw [upd_ne b]; exact (f1 i a b).trans (k3 i a b), fun k hk => by rw [up2_ne hk]; exact (f2 k hk).trans (k4 k hk), fun j hj => by rw [up2_at, upd_ne (by omega)]; exact (f3 j (by omega)).trans (k5 j hj), (upd_ne (by decide)).trans f4, upd_same _ _ _, by omega, by omega, fun _ => ⟨by omega, g3⟩⟩
          show sX4_readLevel (S + 1) 58 (nI 2) (nI o) (cW I A 19) = _
          rw [k0, f0 999 0 1 (by decide), if_neg (by decide), sX4_readLevel_39, if_neg (by decide)]
          rfl
        · obtain ⟨r, J2, f0, f1, f2, f3, f4⟩ := M2 J B hS
          exact ⟨_, J2, f0, f1, f2, f3, fun _ => by rw [f4 rfl]⟩
    · refine ⟨true, p1, code1, ℓ1, val1, b1, b2, fun I A z hS => ?_, fun J B hS => ?_, fun _ => ⟨r1, r2, r3⟩⟩
      · obtain ⟨I1, A1, k0, k1, k2, k3, k4, k5, k6⟩ := C1 I A z hS
        obtain ⟨h0, h1, h2, h3, h4, ht⟩ := k1
        refine ⟨I1, A1, z + ℓ1, ?_, k3, k4, k5, h0, h3, by omega, by omega, fun _ => ⟨rfl, k2⟩⟩
        show sX4_readLevel (S + 1) 58 (nI 2) (nI o) (cW I A 19) = _
        obtain ⟨v, ev, hv⟩ := c_lv (s := bt t e p1) (L := 2) (by omega) (cW I1 A1 19)
        rw [k0, sX4_readLevel_39, if_pos (by decide), c_next (t := t) he b2 h0 h1 ht, ab_b2_some, ev, ab_b2_some, if_neg (fun e => hlv (hv.mp e))]
        rfl
      · obtain ⟨J1, k0, k1, k2⟩ := M1 J B hS
        refine ⟨_, J1, ?_, k2, k1.1, k1.2.2.2.2.1, fun _ => rfl⟩
        show sX10_compared (M + 1) 0 (mW J B) = _
        rw [k0, sX10_compared_24, if_neg (fun e => hlv (by rw [e]; decide)), if_neg (fun e => hlv (by rw [e]; decide)), if_neg (fun e => hlv (by rw [e]; decide))]
end RD
