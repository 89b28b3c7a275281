def clm (m : Nat) (v : Int32) : Nat := if v < 0 then 0 else min m v.toNatClampNeg
theorem clm_le (m : Nat) (v : Int32) : clm m v ≤ m := by unfold clm; split <;> omega
theorem m_heldc {m : Nat} (hm : m < 2 ^ 31) (v : Int32) (w : ab_W) : sX10_held v 0 (nI m) w = some (nI (clm m v), w) := by
  rw [sX10_held, clm]
  by_cases h : v < 0
  · rw [if_pos h, if_pos h]; rfl
  · rw [if_neg h, if_neg h]
    obtain ⟨k, hk, rfl⟩ := nI_of h
    rw [nI_clamp hk]
    by_cases h2 : m < k
    · rw [if_pos (nI_lt h2 hk), Nat.min_eq_left (by omega)]
    · rw [if_neg (nI_nlt (by omega) hm), Nat.min_eq_right (by omega)]
theorem c_clamp {m : Nat} (hm0 : 0 < m) (hm : m < 2 ^ 31) (v : Int32) : (if 0 < (if v < nI m then v else nI m) then (if v < nI m then v else nI m) else 0) = nI (clm m v) := by
  rw [clm]
  by_cases h : v < 0
  · have h1 : v < nI m := by
      rw [Int32.lt_iff_toInt_lt] at h ⊢
      rw [nI_toInt hm]
      have : (0 : Int32).toInt = 0 := rfl
      omega
    rw [if_pos h1, if_neg (fun h2 => by
      rw [Int32.lt_iff_toInt_lt] at h h2
      omega), if_pos h]
    rfl
  · obtain ⟨k, hk, rfl⟩ := nI_of h
    rw [if_neg h, nI_clamp hk]
    by_cases h2 : k < m
    · rw [if_pos (nI_lt h2 hm), Nat.min_eq_right (by omega)]
      by_cases h0 : 0 < k
      · rw [if_pos (show (0 : Int32) < nI k from nI_lt (a := 0) h0 hk)]
      · rw [show k = 0 by omega]; rfl
    · rw [if_neg (nI_nlt (by omega) hk), if_pos (show (0 : Int32) < nI m from nI_lt (a := 0) hm0 hm), Nat.min_eq_left (by omega)]
section TX
variable {I J : Nat → Int32} {A B : Nat → Nat → Int32} {tp : Nat} {t : Nat → Int32} {e u : Nat}
theorem m_walks {ok : Bool} {p' : Nat} {val : Int32 → Int32 → Int32 → Int32} (he : e ≤ 50) (hu : u < 2) (hp' : p' ≤ e) (hM : MN (fun w => sX10_whole 100 0 w) t e u 0 0 ok p' val) (a b c : Int32) (h5 : B 1 (5 + u) = nI e) (ht : ∀ j, j < 50 → B 1 (126 + 50 * u + j) = t j) : ∃ v J', sX10_walks 0 (nI u) a b c (mW J B) = some (v, mW J' B) ∧ (∀ i, ¬ (7 ≤ i ∧ i ≤ 14) → J' i = J i) ∧ J' 8 = nI p' ∧ J' 14 = bI (ok && decide (p' = e)) ∧ (ok = true → v = val a b c) := by
  obtain ⟨v, J1, f0, f1, f2, f3, f4⟩ := hM (upd (upd (upd (upd (upd (upd (upd (upd J 7 (nI u)) 8 0) 9 (nI e)) 10 0) 14 1) 11 a) 12 b) 13 c) B ⟨rfl, rfl, rfl, rfl, rfl, ht⟩
  have ew : sX10_walks 0 (nI u) a b c (mW J B) = ab_b2 (some (v, mW J1 B)) fun v11 w12 => (ab_getI w12 10 0 14).bind fun v13 => if v13 = 0 then sX10_walks_77 v11 0 w12 else (ab_getI w12 10 0 8).bind fun v14 => (ab_getI w12 10 0 9).bind fun v15 => if v14 = v15 then sX10_walks_78 v11 0 1 w12 else sX10_walks_77 v11 0 w12 := by
    rw [sX10_walks, if_pos (m_is J B), m_P7, Option.bind_some, m_P8, Option.bind_some, m_R0, Option.bind_some, show (5 + nI u : Int32) = nI (5 + u) from nI_add 5 u, m_A1 _ _ (by omega), Option.bind_some, h5, m_P9, Option.bind_some, m_P10, Option.bind_some, m_P14 _ _ (Or.inr rfl), Option.bind_some, m_P11, Option.bind_some, m_P12, Option.bind_some, m_P13, Option.bind_some, show sX10_whole 100 0 (mW (upd (upd (upd (upd (upd (upd (upd (upd J 7 (nI u)) 8 0) 9 (nI e)) 10 0) 14 1) 11 a) 12 b) 13 c) B) = _ from f0]
  have j9 : J1 9 = nI e := (f1 9 (by decide) (by decide)).trans rfl
  have keep : ∀ i, ¬ (7 ≤ i ∧ i ≤ 14) → J1 i = J i := fun i hi => by
    rw [f1 i (by omega) (by omega)]
    simp (disch := omega) only [upd_ne]
  have e78 : ∀ x : Int32, x = 0 ∨ x = 1 → sX10_walks_78 v 0 x (mW J1 B) = some (v, mW (upd J1 14 x) B) := fun x hx => by
    rw [sX10_walks_78, m_P14 _ _ hx]; rfl
  refine ⟨v, upd J1 14 (bI (ok && decide (p' = e))), ?_, fun i hi => by rw [upd_ne (by omega)]; exact keep i hi, by rw [upd_ne (by decide)]; exact f2, upd_same _ _ _, fun hok => f4 hok⟩
  rw [ew, ab_b2_some, m_I14, Option.bind_some, f3]
  cases ok
  · rw [if_pos (by decide), sX10_walks_77, e78 0 (Or.inl rfl)]; rfl
  · rw [if_neg (by decide), m_I8, Option.bind_some, m_I9, Option.bind_some, f2, j9]
    by_cases hpe : p' = e
    · rw [if_pos (by rw [hpe]), e78 1 (Or.inr rfl), show (true && decide (p' = e)) = true from by simp [hpe]]; rfl
    · rw [if_neg (fun h => hpe ((nI_eq (by omega) (by omega)).mp h)), sX10_walks_77, e78 0 (Or.inl rfl), show (true && decide (p' = e)) = false from by simp [hpe]]; rfl
def mst (u : Nat) : Nat := if u = 0 then 99 else 999
theorem LM_text {val : Int32 → Int32 → Int32 → Int32} (he : e ≤ 50) (hu : u < 2) (hM : MN (fun w => sX10_whole 100 0 w) t e u 0 0 true e val) : LM u (nI e) t (fun a b c => clm (mst u) (val a b c)) := by
  intro J B a b c h5 ht
  obtain ⟨v, J', f0, f1, f2, f3, f4⟩ := m_walks (J := J) he hu (Nat.le_refl _) hM a b c h5 ht
  refine ⟨J', ?_, f1 4 (by omega), f1 5 (by omega), f1 22 (by omega)⟩
  have e12 : ∀ m : Nat, m < 2 ^ 31 → sX10_lawOf_12 0 (nI u) a b c (nI m) (mW J B) = some (nI (clm m (val a b c)), mW J' B) := fun m hm => by
    rw [sX10_lawOf_12, m_R0, Option.bind_some, show (5 + nI u : Int32) = nI (5 + u) from nI_add 5 u, m_A1 _ _ (by omega), Option.bind_some, h5, if_neg (nI_pos (by omega)), f0, ab_b2_some, ab_b2_eta, m_heldc hm, f4 rfl]
  rw [sX10_lawOf, if_pos (m_is J B)]
  rcases (show u = 0 ∨ u = 1 by omega) with rfl | rfl
  · rw [if_pos (show nI 0 = 0 from rfl)]; exact e12 99 (by decide)
  · rw [if_neg (show ¬ nI 1 = 0 by decide)]; exact e12 999 (by decide)
theorem LC_text {code : Nat → Int32} {ℓ : Nat} {val : Int32 → Int32 → Int32 → Int32} {s : Nat → Int32} (hu : u < 2) (hl : 1 ≤ ℓ) (hl5 : ℓ ≤ 50) (hR : RUN u code ℓ val) (hs : ∀ q, q < ℓ → s q = code q) : LC u (nI ℓ) s (fun a b c => clm (mst u) (val a b c)) := by
  intro I A tp a b c h5 hA
  obtain ⟨pl, e1, e2, e3⟩ := hR I A tp a b c 0 0 ℓ (1000 - ℓ) (fun q hq => by rw [Nat.zero_add, hA q (by omega)]; exact hs q hq) (by omega) h5 hl5 (by omega)
  rw [show 1000 - ℓ + ℓ = 1000 by omega] at e1
  have ew : sX2_workOut (30 + 3 * u) a b c (cW I A tp) = some (val a b c, cW I (upB A (32 + 3 * u) pl) tp) := by
    rw [sX2_workOut, if_pos (c_uis I A tp hu), show sX2_workOut_6 1000 (30 + 3 * u) a b c 0 0 (cW I A tp) = _ from e1, show 1000 - ℓ = (999 - ℓ) + 1 by omega, sX2_workOut_6, c_u2 _ _ _ hu, Option.bind_some, h5, if_neg (nI_nlt (by omega) (by omega)), if_pos (show (0 : Int32) < nI (0 + 1) from by decide), c_u1 _ _ _ hu, Option.bind_some, show ab_ald (cW I (upB A (32 + 3 * u) pl) tp) (32 + 3 * u) 0 = some (pl 0) from by
      have := c_uP I (upB A (32 + 3 * u) pl) tp (u := u) (j := 0) hu (by decide)
      rw [upB_at] at this
      exact this, Option.bind_some, e3]
  have em : sX2_isMissing (30 + 3 * u) (cW I A tp) = some (0, cW I A tp) := by
    rw [sX2_isMissing, if_pos (c_uis I A tp hu), c_u2 _ _ _ hu, Option.bind_some, h5, if_neg (nI_ne0 (by omega) (by omega))]; rfl
  refine ⟨pl, ?_⟩
  rcases (show u = 0 ∨ u = 1 by omega) with rfl | rfl
  · rw [sX0_gives, if_pos (c_is17 I A tp), if_pos (show nI 0 = 0 from rfl), c_R17_2, Option.bind_some, show ab_rald (cW I A tp) 2 20 0 = some 30 from rfl, Option.bind_some, show sX2_isMissing 30 (cW I A tp) = _ from em, ab_b2_some, if_pos rfl, c_R17_2, Option.bind_some, show ab_rald (cW I A tp) 2 20 0 = some 30 from rfl, Option.bind_some, show sX2_workOut 30 a b c (cW I A tp) = _ from ew, ab_b2_some, sX0_gives_39]
    exact congrArg (fun x => some (x, cW I (upB A (32 + 3 * 0) pl) tp)) (c_clamp (m := 99) (by decide) (by decide) (val a b c))
  · rw [sX0_gives, if_pos (c_is17 I A tp), if_neg (show ¬ nI 1 = 0 by decide), c_R17_2, Option.bind_some, show ab_rald (cW I A tp) 2 20 1 = some 33 from rfl, Option.bind_some, show sX2_isMissing 33 (cW I A tp) = _ from em, ab_b2_some, if_pos rfl, c_R17_2, Option.bind_some, show ab_rald (cW I A tp) 2 20 1 = some 33 from rfl, Option.bind_some, show sX2_workOut 33 a b c (cW I A tp) = _ from ew, ab_b2_some, sX0_gives_85]
    exact congrArg (fun x => some (x, cW I (upB A (32 + 3 * 1) pl) tp)) (c_clamp (m := 999) (by decide) (by decide) (val a b c))
end TX
