section RD
variable {I J : Nat → Int32} {A B : Nat → Nat → Int32} {t : Nat → Int32} {e u o p z : Nat}
/-- what a loop of the reference over one level's signs does -/
def MLP (t : Nat → Int32) (e u o L : Nat) (ML : Nat → Int32 → ab_W → Option (Int32 × ab_W)) (G : ab_W → Option (Int32 × ab_W)) : Prop :=
  (∀ f v J B, J 14 = 0 → ML (f + 1) v (mW J B) = some (v, mW J B)) ∧ (∀ f v J B p, p ≤ e → MSt t e u J B p o → lv (bt t e p) ≠ L → ML (f + 1) v (mW J B) = some (v, mW J B)) ∧
  (∀ f v J B p, p ≤ e → MSt t e u J B p o → lv (bt t e p) = L → ML (f + 1) v (mW J B) = ab_b2 (G (mW (upd J 8 (nI (p + 1))) B)) fun r w => ML f (jn (bt t e p) v r) w)
def CL (F : ab_W → Option (Int32 × ab_W)) (t : Nat → Int32) (e u p : Nat) (c0 : Nat → Int32) (l0 : Nat) (ok : Bool) (p' : Nat) (code : Nat → Int32) (ℓ : Nat) : Prop := ∀ I A z, CSt t e u I A p (z + l0) → (∀ q, q < l0 → A 60 (z + q) = c0 q) → ∃ I' A' z', F (cW I A 19) = some (bI ok, cW I' A' 19) ∧ (∀ i, i ≠ 420 → i ≠ 423 → I' i = I i) ∧ (∀ k, k ≠ 60 → A' k = A k) ∧ (∀ j, j < z → A' 60 j = A 60 j) ∧ I' 420 = nI p' ∧ I' 423 = nI z' ∧ z' + p ≤ z + l0 + p' ∧ z ≤ z' ∧ (ok = true → z' = z + ℓ ∧ ∀ q, q < ℓ → A' 60 (z + q) = code q)
def MLL (G : Int32 → ab_W → Option (Int32 × ab_W)) (t : Nat → Int32) (e u o p : Nat) (v0 : Int32 → Int32 → Int32 → Int32) (ok : Bool) (p' : Nat) (val : Int32 → Int32 → Int32 → Int32) : Prop := ∀ J B, MSt t e u J B p o → ∃ v J', G (v0 (J 11) (J 12) (J 13)) (mW J B) = some (v, mW J' B) ∧ (∀ i, i ≠ 8 → i ≠ 14 → J' i = J i) ∧ J' 8 = nI p' ∧ J' 14 = bI ok ∧ (ok = true → v = val (J 11) (J 12) (J 13))
/-- one more operand: the class -/
theorem c_step {L S : Nat} {ok2 : Bool} {p2 ℓ2 : Nat} {code2 : Nat → Int32} {c0 : Nat → Int32} {l0 : Nat} (he : e ≤ 50) (hL : L ≤ 4) (hp : p < e) (b2 : p2 ≤ e) (hlv : lv (bt t e p) = L) (hC : CN (fun w => sX4_readLevel S 58 (nI (L + 1)) (nI o) w) t e u (p + 1) ok2 p2 code2 ℓ2) (hS : CSt t e u I A p (z + l0)) (hc : ∀ q, q < l0 → A 60 (z + q) = c0 q) : ∃ I2 A2 z2, (∀ (kf i : Nat) (most : Int32), nI i < most → sX4_readLevel_39 (sX4_readLevel S) (sX4_readSingle S) (kf + 1) 58 (nI L) (nI o) most (nI i) (cW I A 19) = (if bI ok2 = 0 then some (0, cW I2 A2 19) else sX4_readLevel_39 (sX4_readLevel S) (sX4_readSingle S) kf 58 (nI L) (nI o) most (nI (i + 1)) (cW (upd I2 423 (nI (z2 + 1))) (up2 A2 60 z2 (20000 + bt t e p)) 19))) ∧ (∀ i, i ≠ 420 → i ≠ 423 → I2 i = I i) ∧ (∀ k, k ≠ 60 → A2 k = A k) ∧ (∀ j, j < z + l0 → A2 60 j = A 60 j) ∧ I2 420 = nI p2 ∧ I2 423 = nI z2 ∧ z2 + (p + 1) ≤ z + l0 + p2 ∧ z + l0 ≤ z2 ∧ (ok2 = true → z2 = z + l0 + ℓ2 ∧ CSt t e u (upd I2 423 (nI (z2 + 1))) (up2 A2 60 z2 (20000 + bt t e p)) p2 (z + (l0 + ℓ2 + 1)) ∧ ∀ q, q < l0 + ℓ2 + 1 → up2 A2 60 z2 (20000 + bt t e p) 60 (z + q) = cat (cat c0 l0 code2) (l0 + ℓ2) (fun _ => 20000 + bt t e p) q) := by
  obtain ⟨h0, h1, h2, h3, h4, ht⟩ := hS
  obtain ⟨I2, A2, z2, f0, f1, f2, f3, f4, f5, f6, f7, f8⟩ := hC (upd I 420 (nI (p + 1))) A (z + l0) ⟨upd_same _ _ _, (upd_ne (by decide)).trans h1, (upd_ne (by decide)).trans h2, (upd_ne (by decide)).trans h3, by omega, ht⟩
  refine ⟨I2, A2, z2, fun kf i most him => ?_, fun i a b => (f1 i a b).trans (upd_ne a), f2, f3, f4, f5, f6, f7, fun hok => ?_⟩
  · obtain ⟨v, ev, hv⟩ := c_lv (s := bt t e p) (L := L) (by omega) (cW I A 19)
    rw [sX4_readLevel_39, if_pos him, c_next (t := t) he (by omega) h0 h1 ht, ab_b2_some, ev, ab_b2_some, if_pos (hv.mpr hlv), c_next (t := t) he (by omega) h0 h1 ht, ab_b2_some, c_I58_1, Option.bind_some, h0, c_P58_1, Option.bind_some, nI_1, nI_1, nI_1, show sX4_readLevel S 58 (nI (L + 1)) (nI o) (cW (upd I 420 (nI (p + 1))) A 19) = _ from f0, ab_b2_some]
    cases ok2
    · rfl
    · rw [if_neg (by decide), if_neg (by decide), c_R58_0, Option.bind_some, c_add (z := z2) (by omega) f5, Option.bind_some]
  · obtain ⟨g1, g2⟩ := f8 hok
    refine ⟨g1, ⟨(upd_ne (by decide)).trans f4, by rw [upd_ne (by decide), f1 421 (by decide) (by decide), upd_ne (by decide)]; exact h1, by rw [upd_ne (by decide), f1 422 (by decide) (by decide), upd_ne (by decide)]; exact h2, by rw [upd_same, g1, show z + l0 + ℓ2 + 1 = z + (l0 + ℓ2 + 1) by omega], by omega, fun j hj => by rw [up2_ne (by decide), f2 19 (by decide)]; exact ht j hj⟩, fun q hq => ?_⟩
    rw [up2_at]
    by_cases e1 : q = l0 + ℓ2
    · subst e1
      rw [show z + (l0 + ℓ2) = z2 by omega, upd_same, cat, if_neg (by omega)]
    · rw [upd_ne (by omega), cat, if_pos (by omega), cat]
      by_cases e2 : q < l0
      · rw [if_pos e2, f3 _ (by omega)]; exact hc q e2
      · rw [if_neg e2, show z + q = z + l0 + (q - l0) by omega]
        exact g2 (q - l0) (by omega)
theorem m_step {G : ab_W → Option (Int32 × ab_W)} {ok2 : Bool} {p2 : Nat} {val2 : Int32 → Int32 → Int32 → Int32} (hM : MN G t e u o (p + 1) ok2 p2 val2) (hS : MSt t e u J B p o) : ∃ r J2, G (mW (upd J 8 (nI (p + 1))) B) = some (r, mW J2 B) ∧ (∀ i, i ≠ 8 → i ≠ 14 → J2 i = J i) ∧ J2 8 = nI p2 ∧ J2 14 = bI ok2 ∧ (ok2 = true → r = val2 (J 11) (J 12) (J 13) ∧ MSt t e u J2 B p2 o) := by
  obtain ⟨h8, h9, h7, h10, h14, ht⟩ := hS
  obtain ⟨r, J2, f0, f1, f2, f3, f4⟩ := hM (upd J 8 (nI (p + 1))) B ⟨upd_same _ _ _, (upd_ne (by decide)).trans h9, (upd_ne (by decide)).trans h7, (upd_ne (by decide)).trans h10, (upd_ne (by decide)).trans h14, ht⟩
  have f1' : ∀ i, i ≠ 8 → i ≠ 14 → J2 i = J i := fun i a b => (f1 i a b).trans (upd_ne a)
  refine ⟨r, J2, f0, f1', f2, f3, fun hok => ⟨?_, f2, (f1' 9 (by decide) (by decide)).trans h9, (f1' 7 (by decide) (by decide)).trans h7, (f1' 10 (by decide) (by decide)).trans h10, by rw [f3, hok]; rfl, ht⟩⟩
  have := f4 hok
  simp (disch := decide) only [upd_ne] at this
  exact this
theorem lp {L S : Nat} {ML : Nat → Int32 → ab_W → Option (Int32 × ab_W)} {G : ab_W → Option (Int32 × ab_W)} (he : e ≤ 50) (hu : u < 2) (hL : L ≤ 4) (hML : MLP t e u o L ML G) (H : ∀ p, p ≤ e → NT (fun w => sX4_readLevel S 58 (nI (L + 1)) (nI o) w) G t e u o p) : ∀ (m p i kf kg : Nat) (c0 : Nat → Int32) (l0 : Nat) (v0 : Int32 → Int32 → Int32 → Int32), e ≤ p + m → p ≤ e → i ≤ p → 1 ≤ l0 → RUN u c0 l0 v0 → ∃ ok p' code ℓ val, p ≤ p' ∧ p' ≤ e ∧ CL (fun w => sX4_readLevel_39 (sX4_readLevel S) (sX4_readSingle S) (kf + m + 1) 58 (nI L) (nI o) 50 (nI i) w) t e u p c0 l0 ok p' code ℓ ∧ MLL (fun v w => ML (kg + m + 1) v w) t e u o p v0 ok p' val ∧ (ok = true → 1 ≤ ℓ ∧ RUN u code ℓ val) := by
  obtain ⟨m1, m2, m3⟩ := hML
  have stop : ∀ (kf kg p i : Nat) (c0 : Nat → Int32) (l0 : Nat) (v0 : Int32 → Int32 → Int32 → Int32), p ≤ e → lv (bt t e p) ≠ L → 1 ≤ l0 → RUN u c0 l0 v0 → ∃ ok p' code ℓ val, p ≤ p' ∧ p' ≤ e ∧ CL (fun w => sX4_readLevel_39 (sX4_readLevel S) (sX4_readSingle S) (kf + 1) 58 (nI L) (nI o) 50 (nI i) w) t e u p c0 l0 ok p' code ℓ ∧ MLL (fun v w => ML (kg + 1) v w) t e u o p v0 ok p' val ∧ (ok = true → 1 ≤ ℓ ∧ RUN u code ℓ val) := by
    intro kf kg p i c0 l0 v0 hp hlv hl0 hR
    refine ⟨true, p, c0, l0, v0, Nat.le_refl _, hp, fun I A z hS hc => ?_, fun J B hS => ?_, fun _ => ⟨hl0, hR⟩⟩
    · obtain ⟨h0, h1, h2, h3, h4, ht⟩ := hS
      refine ⟨I, A, z + l0, ?_, fun _ _ _ => rfl, fun _ _ => rfl, fun _ _ => rfl, h0, h3, by omega, by omega, fun _ => ⟨rfl, hc⟩⟩
      show sX4_readLevel_39 (sX4_readLevel S) (sX4_readSingle S) (kf + 1) 58 (nI L) (nI o) 50 (nI i) (cW I A 19) = _
      obtain ⟨v, ev, hv⟩ := c_lv (s := bt t e p) (L := L) (by omega) (cW I A 19)
      rw [sX4_readLevel_39]
      by_cases hi : nI i < 50
      · rw [if_pos hi, c_next (t := t) he hp h0 h1 ht, ab_b2_some, ev, ab_b2_some, if_neg (fun e => hlv (hv.mp e))]; rfl
      · rw [if_neg hi]; rfl
    · exact ⟨_, J, m2 kg _ J B p hp hS hlv, fun _ _ _ => rfl, hS.1, hS.2.2.2.2.1, fun _ => rfl⟩
  intro m
  induction m with
  | zero =>
    intro p i kf kg c0 l0 v0 hm hp hi hl0 hR
    refine stop kf kg p i c0 l0 v0 hp ?_ hl0 hR
    rw [bt, if_neg (by omega), show lv (-1) = 9 from by decide]
    omega
  | succ m ih =>
    intro p i kf kg c0 l0 v0 hm hp hi hl0 hR
    by_cases hlv : lv (bt t e p) = L
    · have hpe : p < e := bt_neg (fun h => by rw [h, show lv (-1) = 9 from by decide] at hlv; omega)
      obtain ⟨ok2, p2, code2, ℓ2, val2, b1, b2, hC, hM, hR2⟩ := H (p + 1) (by omega)
      cases hok : ok2
      · subst hok
        refine ⟨false, p2, fun _ => 0, 0, fun _ _ _ => 0, by omega, b2, fun I A z hS hc => ?_, fun J B hS => ?_, fun h => absurd h (by decide)⟩
        · obtain ⟨I2, A2, z2, f0, f1, f2, f3, f4, f5, f6, f7, -⟩ := c_step he hL hpe b2 hlv hC hS hc
          refine ⟨I2, A2, z2, (f0 (kf + m + 1) i 50 (show nI i < 50 from nI_lt (b := 50) (by omega) (by decide))).trans (if_pos (by decide)), f1, f2, fun j hj => f3 j (by omega), f4, f5, by omega, by omega, fun h => absurd h (by decide)⟩
        · obtain ⟨r, J2, f0, f1, f2, f3, -⟩ := m_step hM hS
          refine ⟨jn (bt t e p) (v0 (J 11) (J 12) (J 13)) r, J2, ?_, f1, f2, f3, fun h => absurd h (by decide)⟩
          show ML (kg + (m + 1) + 1) (v0 (J 11) (J 12) (J 13)) (mW J B) = _
          rw [show kg + (m + 1) + 1 = (kg + m + 1) + 1 by omega, m3 _ _ J B p hp hS hlv, f0, ab_b2_some, m1 _ _ J2 B f3]
      · subst hok
        obtain ⟨r1, r2, r3⟩ := hR2 rfl
        obtain ⟨ok, p', code, ℓ, val, d1, d2, dC, dM, dR⟩ := ih p2 (i + 1) kf kg (cat (cat c0 l0 code2) (l0 + ℓ2) (fun _ => 20000 + bt t e p)) (l0 + ℓ2 + 1) (fun a b c => jn (bt t e p) (v0 a b c) (val2 a b c)) (by omega) b2 (by omega) (by omega) (run_join hu (by omega) hl0 r2 hR r3)
        refine ⟨ok, p', code, ℓ, val, by omega, d2, fun I A z hS hc => ?_, fun J B hS => ?_, dR⟩
        · obtain ⟨I2, A2, z2, f0, f1, f2, f3, f4, f5, f6, f7, f8⟩ := c_step he hL hpe b2 hlv hC hS hc
          obtain ⟨g1, g2, g3⟩ := f8 rfl
          obtain ⟨I', A', z', k0, k1, k2, k3, k4, k5, k6, k7, k8⟩ := dC _ _ z g2 g3
          refine ⟨I', A', z', ?_, fun i a b => by rw [k1 i a b, upd_ne b]; exact f1 i a b, fun k hk => by rw [k2 k hk, up2_ne hk]; exact f2 k hk, fun j hj => by rw [k3 j hj, up2_at, upd_ne (by omega)]; exact f3 j (by omega), k4, k5, by omega, k7, k8⟩
          show sX4_readLevel_39 (sX4_readLevel S) (sX4_readSingle S) (kf + (m + 1) + 1) 58 (nI L) (nI o) 50 (nI i) (cW I A 19) = _
          rw [show kf + (m + 1) + 1 = (kf + m + 1) + 1 by omega, f0 (kf + m + 1) i 50 (show nI i < 50 from nI_lt (b := 50) (by omega) (by decide)), if_neg (by decide)]
          exact k0
        · obtain ⟨r, J2, f0, f1, f2, f3, f4⟩ := m_step hM hS
          obtain ⟨g1, g2⟩ := f4 rfl
          obtain ⟨v', J', k0, k1, k2, k3, k4⟩ := dM J2 B g2
          refine ⟨v', J', ?_, fun i a b => (k1 i a b).trans (f1 i a b), k2, k3, fun hok => ?_⟩
          · show ML (kg + (m + 1) + 1) (v0 (J 11) (J 12) (J 13)) (mW J B) = _
            rw [show kg + (m + 1) + 1 = (kg + m + 1) + 1 by omega, m3 _ _ J B p hp hS hlv, f0, ab_b2_some, g1]
            rw [f1 11 (by decide) (by decide), f1 12 (by decide) (by decide), f1 13 (by decide) (by decide)] at k0
            exact k0
          · have := k4 hok
            rw [f1 11 (by decide) (by decide), f1 12 (by decide) (by decide), f1 13 (by decide) (by decide)] at this
            exact this
    · exact stop (kf + (m + 1)) (kg + (m + 1)) p i c0 l0 v0 hp hlv hl0 hR
theorem nt_level {L S : Nat} {ML : Nat → Int32 → ab_W → Option (Int32 × ab_W)} {G G' : ab_W → Option (Int32 × ab_W)} (he : e ≤ 50) (hu : u < 2) (hL : L ≤ 4) (hL2 : L ≠ 2) (hML : MLP t e u o L ML G) (hG : ∀ J B, G' (mW J B) = ab_b2 (G (mW J B)) fun v w => ML 1000 v w) (H : ∀ p, p ≤ e → NT (fun w => sX4_readLevel S 58 (nI (L + 1)) (nI o) w) G t e u o p) (hp : p ≤ e) : NT (fun w => sX4_readLevel (S + 1) 58 (nI L) (nI o) w) G' t e u o p := by
  have eL : ∀ I A, sX4_readLevel (S + 1) 58 (nI L) (nI o) (cW I A 19) = ab_b2 (sX4_readLevel S 58 (nI (L + 1)) (nI o) (cW I A 19)) fun v1 w2 => if v1 = 0 then (ab_bool 0).bind fun y => some (y, w2) else sX4_readLevel_39 (sX4_readLevel S) (sX4_readSingle S) 1000 58 (nI L) (nI o) 50 0 w2 := fun I A => by
    rw [sX4_readLevel_s, bX4_readLevel, if_pos (c_is58 I A 19), if_pos (show nI L < 5 from nI_lt (b := 5) (by omega) (by decide)), nI_1]
    simp only [if_neg (show ¬ nI L = 2 from fun e => hL2 ((nI_eq (b := 2) (by omega) (by decide)).mp e))]
    rfl
  obtain ⟨ok1, p1, code1, ℓ1, val1, b1, b2, hC, hM, hR⟩ := H p hp
  cases hok : ok1
  · subst hok
    refine ⟨false, p1, fun _ => 0, 0, fun _ _ _ => 0, b1, b2, fun I A z hS => ?_, fun J B hS => ?_, fun h => absurd h (by decide)⟩
    · obtain ⟨I', A', z', f0, f1, f2, f3, f4, f5, f6, f7, -⟩ := hC I A z hS
      refine ⟨I', A', z', ?_, f1, f2, f3, f4, f5, f6, f7, fun h => absurd h (by decide)⟩
      show sX4_readLevel (S + 1) 58 (nI L) (nI o) (cW I A 19) = _
      rw [eL, show sX4_readLevel S 58 (nI (L + 1)) (nI o) (cW I A 19) = _ from f0]; rfl
    · obtain ⟨v, J', f0, f1, f2, f3, -⟩ := hM J B hS
      refine ⟨v, J', ?_, f1, f2, f3, fun h => absurd h (by decide)⟩
      rw [hG, f0, ab_b2_some]
      exact hML.1 999 v J' B f3
  · subst hok
    obtain ⟨r1, r2, r3⟩ := hR rfl
    obtain ⟨ok, p', code, ℓ, val, d1, d2, dC, dM, dR⟩ := lp he hu hL hML H (e - p1) p1 0 (999 - (e - p1)) (999 - (e - p1)) code1 ℓ1 val1 (by omega) b2 (by omega) r2 r3
    rw [show 999 - (e - p1) + (e - p1) + 1 = 1000 by omega] at dC dM
    refine ⟨ok, p', code, ℓ, val, by omega, d2, fun I A z hS => ?_, fun J B hS => ?_, fun hok => ⟨by omega, (dR hok).1, (dR hok).2⟩⟩
    · obtain ⟨I1, A1, z1, f0, f1, f2, f3, f4, f5, f6, f7, f8⟩ := hC I A z hS
      obtain ⟨g1, g2⟩ := f8 rfl
      obtain ⟨h0, h1, h2, h3, h4, ht⟩ := hS
      obtain ⟨I', A', z', k0, k1, k2, k3, k4, k5, k6, k7, k8⟩ := dC I1 A1 z ⟨f4, (f1 421 (by decide) (by decide)).trans h1, (f1 422 (by decide) (by decide)).trans h2, by rw [f5, g1], by omega, fun j hj => by rw [f2 19 (by decide)]; exact ht j hj⟩ g2
      refine ⟨I', A', z', ?_, fun i a b => (k1 i a b).trans (f1 i a b), fun k hk => (k2 k hk).trans (f2 k hk), fun j hj => (k3 j hj).trans (f3 j hj), k4, k5, by omega, k7, k8⟩
      show sX4_readLevel (S + 1) 58 (nI L) (nI o) (cW I A 19) = _
      rw [eL, show sX4_readLevel S 58 (nI (L + 1)) (nI o) (cW I A 19) = _ from f0, ab_b2_some, if_neg (by decide)]
      exact k0
    · obtain ⟨v, J1, f0, f1, f2, f3, f4⟩ := hM J B hS
      obtain ⟨h8, h9, h7, h10, h14, ht⟩ := hS
      obtain ⟨v', J', k0, k1, k2, k3, k4⟩ := dM J1 B ⟨f2, (f1 9 (by decide) (by decide)).trans h9, (f1 7 (by decide) (by decide)).trans h7, (f1 10 (by decide) (by decide)).trans h10, f3, ht⟩
      rw [f1 11 (by decide) (by decide), f1 12 (by decide) (by decide), f1 13 (by decide) (by decide)] at k0 k4
      refine ⟨v', J', ?_, fun i a b => (k1 i a b).trans (f1 i a b), k2, k3, k4⟩
      rw [hG, f0, ab_b2_some, f4 rfl]
      exact k0
end RD
