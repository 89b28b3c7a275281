section RD
variable {I J : Nat → Int32} {A B : Nat → Nat → Int32} {t : Nat → Int32} {e u o p z : Nat}
/-- the name that a sign is, of a use -/
def nmo (u : Nat) (c : Int32) : Nat := if u = 0 then (if c = 119 then 0 else if c = 104 then 1 else if c = 98 then 2 else 9) else (if c = 111 then 0 else if c = 102 then 1 else if c = 100 then 2 else 9)
theorem c_name {c : Int32} (hu : u < 2) (h : I 422 = nI u) : sX4_nameOf 58 c (cW I A 19) = some (if nmo u c = 9 then -1 else nI (nmo u c), cW I A 19) := by
  rw [sX4_nameOf, if_pos (c_is58 I A 19), c_I58_4, h]
  rcases (show u = 0 ∨ u = 1 by omega) with rfl | rfl
  · by_cases h1 : c = 98
    · subst h1; rfl
    rw [if_neg h1]
    by_cases h2 : c = 100
    · subst h2; rfl
    rw [if_neg h2]
    by_cases h3 : c = 102
    · subst h3; rfl
    rw [if_neg h3]
    by_cases h4 : c = 104
    · subst h4; rfl
    rw [if_neg h4]
    by_cases h5 : c = 111
    · subst h5; rfl
    rw [if_neg h5]
    by_cases h6 : c = 119
    · subst h6; rfl
    rw [if_neg h6, show nmo 0 c = 9 from by rw [nmo, if_pos rfl, if_neg h6, if_neg h4, if_neg h1], if_pos rfl]
  · by_cases h1 : c = 98
    · subst h1; rfl
    rw [if_neg h1]
    by_cases h2 : c = 100
    · subst h2; rfl
    rw [if_neg h2]
    by_cases h3 : c = 102
    · subst h3; rfl
    rw [if_neg h3]
    by_cases h4 : c = 104
    · subst h4; rfl
    rw [if_neg h4]
    by_cases h5 : c = 111
    · subst h5; rfl
    rw [if_neg h5]
    by_cases h6 : c = 119
    · subst h6; rfl
    rw [if_neg h6, show nmo 1 c = 9 from by rw [nmo, if_neg (by decide), if_neg h5, if_neg h3, if_neg h2], if_pos rfl]
theorem nmo_cases (c : Int32) : nmo u c = 9 ∨ nmo u c = 0 ∨ nmo u c = 1 ∨ nmo u c = 2 := by
  unfold nmo
  (repeat' split) <;> simp
theorem m_fails (J : Nat → Int32) (B : Nat → Nat → Int32) : sX10_fails 0 (mW J B) = some (0, mW (upd J 14 0) B) := by
  rw [sX10_fails, if_pos (m_is J B), m_P14 J B (Or.inl rfl)]; rfl
theorem m_name {c : Int32} (hu : u < 2) (h7 : J 7 = nI u) (h8 : J 8 = nI p) : sX10_named 0 c (mW J B) = (if nmo u c = 9 then some (0, mW (upd J 14 0) B) else some (if nmo u c = 0 then J 11 else if nmo u c = 1 then J 12 else J 13, mW (upd J 8 (nI (p + 1))) B)) := by
  have e91 : ∀ x2 x3 : Int32, sX10_named_91 0 x2 x3 (mW J B) = some (if x2 = 0 then (if x3 = 0 then J 13 else J 12) else J 11, mW (upd J 8 (nI (p + 1))) B) := fun x2 x3 => by
    rw [sX10_named_91, m_I8, Option.bind_some, h8, m_P8, Option.bind_some, nI_1]
    by_cases a : x2 = 0
    · rw [if_pos a, if_pos a]
      by_cases b : x3 = 0
      · rw [if_pos b, if_pos b, m_I13, Option.bind_some, upd_ne (by decide)]
      · rw [if_neg b, if_neg b, m_I12, Option.bind_some, upd_ne (by decide)]
    · rw [if_neg a, if_neg a, m_I11, Option.bind_some, upd_ne (by decide)]
  rw [sX10_named, if_pos (m_is J B), m_I7, Option.bind_some, h7]
  rcases (show u = 0 ∨ u = 1 by omega) with rfl | rfl
  · rw [if_pos (show nI 0 = 0 from rfl), sX10_named_15]
    by_cases h1 : c = 119
    · subst h1
      rw [if_pos rfl, sX10_named_23, m_I7, Option.bind_some, h7, if_pos (show nI 0 = 0 from rfl), sX10_named_39, if_neg (by decide), sX10_named_47, m_I7, Option.bind_some, h7, if_pos (show nI 0 = 0 from rfl), sX10_named_63, if_neg (by decide), sX10_named_71, if_neg (by decide), e91]
      rfl
    · rw [if_neg h1, sX10_named_23, m_I7, Option.bind_some, h7, if_pos (show nI 0 = 0 from rfl), sX10_named_39]
      by_cases h2 : c = 104
      · subst h2
        rw [if_pos rfl, sX10_named_47, m_I7, Option.bind_some, h7, if_pos (show nI 0 = 0 from rfl), sX10_named_63, if_neg (by decide), sX10_named_71, if_pos rfl, if_neg (by decide), e91]
        rfl
      · rw [if_neg h2, sX10_named_47, m_I7, Option.bind_some, h7, if_pos (show nI 0 = 0 from rfl), sX10_named_63]
        by_cases h3 : c = 98
        · subst h3
          rw [if_pos rfl, sX10_named_71, if_pos rfl, if_pos rfl, if_neg (by decide), e91]
          rfl
        · rw [if_neg h3, sX10_named_71, if_pos rfl, if_pos rfl, if_pos rfl, ab_b2_eta, m_fails, show nmo 0 c = 9 from by rw [nmo, if_pos rfl, if_neg h1, if_neg h2, if_neg h3], if_pos rfl]
  · rw [if_neg (show ¬ nI 1 = 0 by decide), sX10_named_15]
    by_cases h1 : c = 111
    · subst h1
      rw [if_pos rfl, sX10_named_23, m_I7, Option.bind_some, h7, if_neg (show ¬ nI 1 = 0 by decide), sX10_named_39, if_neg (by decide), sX10_named_47, m_I7, Option.bind_some, h7, if_neg (show ¬ nI 1 = 0 by decide), sX10_named_63, if_neg (by decide), sX10_named_71, if_neg (by decide), e91]
      rfl
    · rw [if_neg h1, sX10_named_23, m_I7, Option.bind_some, h7, if_neg (show ¬ nI 1 = 0 by decide), sX10_named_39]
      by_cases h2 : c = 102
      · subst h2
        rw [if_pos rfl, sX10_named_47, m_I7, Option.bind_some, h7, if_neg (show ¬ nI 1 = 0 by decide), sX10_named_63, if_neg (by decide), sX10_named_71, if_pos rfl, if_neg (by decide), e91]
        rfl
      · rw [if_neg h2, sX10_named_47, m_I7, Option.bind_some, h7, if_neg (show ¬ nI 1 = 0 by decide), sX10_named_63]
        by_cases h3 : c = 100
        · subst h3
          rw [if_pos rfl, sX10_named_71, if_pos rfl, if_pos rfl, if_neg (by decide), e91]
          rfl
        · rw [if_neg h3, sX10_named_71, if_pos rfl, if_pos rfl, if_pos rfl, ab_b2_eta, m_fails, show nmo 1 c = 9 from by rw [nmo, if_neg (by decide), if_neg h1, if_neg h2, if_neg h3], if_pos rfl]
theorem nt_name {S Mf : Nat} (he : e ≤ 50) (hu : u < 2) (hp : p ≤ e) (hd : ¬ inR (bt t e p) 48 57) (h33 : bt t e p ≠ 33) (h40 : bt t e p ≠ 40) : NT (fun w => sX4_readSingle (S + 1) 58 (nI o) w) (fun w => sX10_factor (Mf + 1) 0 w) t e u o p := by
  have ec : ∀ I A z, CSt t e u I A p z → sX4_readSingle (S + 1) 58 (nI o) (cW I A 19) = ab_b2 (some (if nmo u (bt t e p) = 9 then -1 else nI (nmo u (bt t e p)), cW I A 19)) fun v5 w6 => if v5 < 0 then (ab_bool 0).bind fun y => some (y, w6) else (ab_getI w6 4 58 1).bind fun v7 => (ab_putI w6 4 58 1 (v7 + 1)).bind fun w8 => (ab_getR w8 4 58 0).bind fun v9 => (sX2_add v9 (10000 + v5) w8).bind fun w10 => (ab_bool 1).bind fun y => some (y, w10) := fun I A z hS => by
    obtain ⟨h0, h1, h2, h3, h4, ht⟩ := hS
    rw [sX4_readSingle_s, bX4_readSingle, if_pos (c_is58 I A 19), c_next he hp h0 h1 ht, ab_b2_some, c_digF hd, ab_b2_some, if_pos rfl, if_neg h33, if_neg h40, c_name hu h2]
  have em : ∀ J B, MSt t e u J B p o → sX10_factor (Mf + 1) 0 (mW J B) = (if nmo u (bt t e p) = 9 then some (0, mW (upd J 14 0) B) else some (if nmo u (bt t e p) = 0 then J 11 else if nmo u (bt t e p) = 1 then J 12 else J 13, mW (upd J 8 (nI (p + 1))) B)) := fun J B hS => by
    obtain ⟨h8, h9, h7, h10, h14, ht⟩ := hS
    rw [sX10_factor_s, bX10_factor, if_pos (m_is J B), m_I8, Option.bind_some, h8, m_byte he hu hp h9 h7 ht, ab_b2_some, m_digF hd, ab_b2_some, if_pos rfl, if_neg h33, if_neg h40, ab_b2_eta, m_name hu h7 h8]
  by_cases hn : nmo u (bt t e p) = 9
  · refine ⟨false, p, fun _ => 0, 0, fun _ _ _ => 0, Nat.le_refl _, hp, fun I A z hS => ?_, fun J B hS => ?_, fun h => absurd h (by decide)⟩
    · have ec' := ec I A z hS
      rw [if_pos hn, ab_b2_some, if_pos (by decide)] at ec'
      exact ⟨I, A, z, ec', fun _ _ _ => rfl, fun _ _ => rfl, fun _ _ => rfl, hS.1, hS.2.2.2.1, by omega, Nat.le_refl _, fun h => absurd h (by decide)⟩
    · have em' := em J B hS
      rw [if_pos hn] at em'
      exact ⟨0, upd J 14 0, em', fun i a b => upd_ne b, (upd_ne (by decide)).trans hS.1, upd_same _ _ _, fun h => absurd h (by decide)⟩
  · have hk : nmo u (bt t e p) < 3 := by
      rcases nmo_cases (u := u) (bt t e p) with h | h | h | h <;> omega
    have hpe : p < e := bt_neg (fun h => by
      apply hn
      rw [h]
      rcases (show u = 0 ∨ u = 1 by omega) with rfl | rfl <;> decide)
    generalize nmo u (bt t e p) = k at hk hn ec em
    refine ⟨true, p + 1, fun _ => nI (10000 + k), 1, fun a b c => if k = 0 then a else if k = 1 then b else c, by omega, by omega, fun I A z hS => ?_, fun J B hS => ?_, fun _ => ⟨by omega, Nat.le_refl _, run_name hu hk⟩⟩
    · have ec' := ec I A z hS
      obtain ⟨h0, h1, h2, h3, h4, ht⟩ := hS
      rw [if_neg hn, ab_b2_some, if_neg (nI_pos (by omega)), c_I58_1, Option.bind_some, h0, c_P58_1, Option.bind_some, c_R58_0, Option.bind_some, nI_1, show (10000 + nI k : Int32) = nI (10000 + k) from nI_add 10000 k, c_add (z := z) (by omega) ((upd_ne (by decide)).trans h3), Option.bind_some] at ec'
      refine ⟨upd (upd I 420 (nI (p + 1))) 423 (nI (z + 1)), up2 A 60 z (nI (10000 + k)), z + 1, ec', fun i p q => by rw [upd_ne q, upd_ne p], fun k hk => up2_ne hk, fun j hj => by rw [up2_at, upd_ne (by omega)], by rw [upd_ne (by decide), upd_same], upd_same _ _ _, by omega, by omega, fun _ => ⟨rfl, fun q hq => by rw [show z + q = z by omega, up2_at, upd_same]⟩⟩
    · have em' := em J B hS
      rw [if_neg hn] at em'
      exact ⟨_, upd J 8 (nI (p + 1)), em', fun i a b => upd_ne a, upd_same _ _ _, (upd_ne (by decide)).trans hS.2.2.2.2.1, fun _ => rfl⟩
end RD
