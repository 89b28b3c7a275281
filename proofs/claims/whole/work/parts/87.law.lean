section TX
variable {n : Nat} {I J : Nat → Int32} {A B : Nat → Nat → Int32} {tp : Nat} {t : Nat → Int32} {e u : Nat}
theorem c_read {ok : Bool} {p' ℓ : Nat} {code : Nat → Int32} (he : e ≤ 50) (hp' : p' ≤ e) (hC : CN (fun w => sX4_readLevel 100 58 0 0 w) t e u 0 ok p' code ℓ) (ht : ∀ j, j < 50 → A 19 j = t j) : ∃ I' A' z', sX4_read 58 19 (nI e) (nI u) (cW I A tp) = some (bI (ok && decide (p' = e)), cW I' A' 19) ∧ (∀ i, ¬ (420 ≤ i ∧ i ≤ 423) → I' i = I i) ∧ (∀ k, k ≠ 60 → A' k = A k) ∧ I' 420 = nI p' ∧ I' 423 = nI z' ∧ z' ≤ p' ∧ (ok = true → z' = ℓ ∧ ∀ q, q < ℓ → A' 60 q = code q) := by
  obtain ⟨I1, A1, z1, f0, f1, f2, f3, f4, f5, f6, f7, f8⟩ := hC (upd (upd (upd (upd I 421 (nI e)) 422 (nI u)) 420 0) 423 0) A 0 ⟨rfl, rfl, rfl, rfl, Nat.le_refl _, ht⟩
  have i1 : I1 421 = nI e := (f1 421 (by decide) (by decide)).trans rfl
  refine ⟨I1, A1, z1, ?_, fun i hi => ?_, f2, f4, f5, by omega, fun h => ?_⟩
  · rw [sX4_read, if_pos (c_is58 I A tp), c_PR58, Option.bind_some, c_N19, Option.bind_some, if_neg (nI_nlt he (by decide)), c_P58_3, Option.bind_some, c_P58_4, Option.bind_some, c_P58_1, Option.bind_some, c_R58_0, Option.bind_some, sX2_clear, if_pos (c_is59 _ _ _), c_P59_2, Option.bind_some, Option.bind_some, show sX4_readLevel 100 58 0 0 (cW (upd (upd (upd (upd I 421 (nI e)) 422 (nI u)) 420 0) 423 0) A 19) = _ from f0, ab_b2_some]
    cases ok
    · rw [if_pos (by decide)]; rfl
    · rw [if_neg (by decide), c_I58_1, Option.bind_some, c_I58_3, Option.bind_some, f4, i1]
      by_cases hpe : p' = e
      · rw [if_pos (by rw [hpe]), show (true && decide (p' = e)) = true from by simp [hpe]]; rfl
      · rw [if_neg (fun h => hpe ((nI_eq (by omega) (by omega)).mp h)), show (true && decide (p' = e)) = false from by simp [hpe]]; rfl
  · rw [f1 i (by omega) (by omega)]
    simp (disch := omega) only [upd_ne]
  · obtain ⟨g1, g2⟩ := f8 h
    refine ⟨by omega, fun q hq => ?_⟩
    have := g2 q hq
    rw [Nat.zero_add] at this
    exact this
/-- the tape, laid into a use's place of the row, k places of it -/
def tr (r : Nat → Int32) (u k : Nat) : Nat → Int32 := fun i => if 126 + 50 * u ≤ i ∧ i < 126 + 50 * u + k then r (56 + (i - (126 + 50 * u))) else r i
theorem tr_0 (r : Nat → Int32) (u : Nat) : tr r u 0 = r := by funext i; rw [tr, if_neg (by omega)]
theorem tr_out {r : Nat → Int32} {u k i : Nat} (h : ¬ (126 + 50 * u ≤ i ∧ i < 126 + 50 * u + k)) : tr r u k i = r i := if_neg h
theorem tr_in {r : Nat → Int32} {u k j : Nat} (h : j < k) : tr r u k (126 + 50 * u + j) = r (56 + j) := by
  rw [tr, if_pos (by omega), Nat.add_sub_cancel_left]
theorem tr_step (r : Nat → Int32) (u k : Nat) : upd (tr r u k) (126 + 50 * u + k) (r (56 + k)) = tr r u (k + 1) := by
  funext i
  by_cases h : i = 126 + 50 * u + k
  · subst h; rw [upd_same, tr_in (by omega)]
  · rw [upd_ne h, tr, tr]
    by_cases h2 : 126 + 50 * u ≤ i ∧ i < 126 + 50 * u + k
    · rw [if_pos h2, if_pos (by omega)]
    · rw [if_neg h2, if_neg (by omega)]
theorem m_text_30 (hu : u < 2) : ∀ (m j k : Nat), j + m = 50 → sX10_text_30 (k + m + 1) 0 (nI u) (nI j) (mW J (upB B 1 (tr (B 1) u j))) = sX10_text_30 (k + 1) 0 (nI u) (nI 50) (mW J (upB B 1 (tr (B 1) u 50))) := by
  intro m
  induction m with
  | zero =>
    intro j k hj
    have : j = 50 := by omega
    subst this
    rfl
  | succ m ih =>
    intro j k hj
    rw [show k + (m + 1) + 1 = (k + m + 1) + 1 by omega, sX10_text_30, if_pos (show nI j < 50 from nI_lt (b := 50) (by omega) (by decide)), m_R0, Option.bind_some, Option.bind_some, show (56 + nI j : Int32) = nI (56 + j) from nI_add 56 j, m_A1 _ _ (by omega), Option.bind_some, upB_at, tr_out (by omega), show ((126 + 50 * nI u) + nI j : Int32) = nI (126 + 50 * u + j) from by rw [← nI_add, ← nI_add, ← pk_mul]; rfl, m_S1 _ _ _ (by omega), Option.bind_some, upB_up2, tr_step, nI_1]
    exact ih (j + 1) k (by omega)
/-- the reference reads a law -/
theorem m_text {ok : Bool} {p' : Nat} {val : Int32 → Int32 → Int32 → Int32} (he : e ≤ 50) (hu : u < 2) (hp' : p' ≤ e) (hM : MN (fun w => sX10_whole 100 0 w) (fun j => B 1 (56 + j)) e u 0 0 ok p' val) (h3 : B 1 3 = nI e) : ∃ J' B', sX10_text 0 (nI u) (mW J B) = some ((if (ok && decide (p' = e)) = true then 1 else -10 - nI p'), mW J' B') ∧ mJ J J' ∧ (∀ k, k ≠ 1 → k ≠ 4 → B' k = B k) ∧ (if (ok && decide (p' = e)) = true then B' 1 = upd (upd (tr (B 1) u 50) (5 + u) (nI e)) 3 0 else B' 1 = upd (B 1) 3 0) := by
  have hw := m_walks (J := J) (B := upB (upB (upB B 4 (mv (B 1) (B 4) 226)) 1 (tr (B 1) u 50)) 1 (upd (tr (B 1) u 50) (5 + u) (nI e))) he hu hp' hM 1 1 1 (by rw [upB_at, upd_same]) (fun j hj => by rw [upB_at, upd_ne (by omega), tr_in hj])
  obtain ⟨v, J', f0, f1, f2, f3, f4⟩ := hw
  have mj : mJ J J' := ⟨f1 4 (by omega), f1 5 (by omega), f1 22 (by omega)⟩
  have e30 := m_text_30 (J := J) (B := upB B 4 (mv (B 1) (B 4) 226)) hu 50 0 949 rfl
  rw [tr_0, upB_id, upB_ne (A := B) (c := 4) (k := 1) (by decide)] at e30
  have ew : sX10_text 0 (nI u) (mW J B) = (if J' 14 = 0 then sX10_text_104 0 (mW J' (upB (upB (upB B 4 (mv (B 1) (B 4) 226)) 1 (tr (B 1) u 50)) 1 (upd (tr (B 1) u 50) (5 + u) (nI e)))) else if v = v then sX10_text_105 0 1 (mW J' (upB (upB (upB B 4 (mv (B 1) (B 4) 226)) 1 (tr (B 1) u 50)) 1 (upd (tr (B 1) u 50) (5 + u) (nI e)))) else sX10_text_104 0 (mW J' (upB (upB (upB B 4 (mv (B 1) (B 4) 226)) 1 (tr (B 1) u 50)) 1 (upd (tr (B 1) u 50) (5 + u) (nI e))))) := by
    rw [sX10_text, if_pos (m_is J B), show sX10_in (nI u) 0 1 (mW J B) = some (1, mW J B) from m_in_T (lo := 0) (hi := 1) _ (by decide) (by decide) ⟨u, by omega, by omega, rfl⟩, ab_b2_some, if_neg (by decide), m_R0, Option.bind_some, m_R3, Option.bind_some, m_moveAll (by omega) (by omega) (by decide), Option.bind_some, show sX10_text_30 1000 0 (nI u) 0 (mW J (upB B 4 (mv (B 1) (B 4) 226))) = _ from e30, sX10_text_30, if_neg (by decide), m_R0, Option.bind_some, Option.bind_some, show ab_ald (mW J (upB (upB B 4 (mv (B 1) (B 4) 226)) 1 (tr (B 1) u 50))) 1 3 = some (upB (upB B 4 (mv (B 1) (B 4) 226)) 1 (tr (B 1) u 50) 1 3) from rfl, Option.bind_some, upB_at, tr_out (by omega), h3, show (5 + nI u : Int32) = nI (5 + u) from nI_add 5 u, m_S1 _ _ _ (by omega), Option.bind_some, up2_upB, upB_at, f0, ab_b2_some, m_I14, Option.bind_some]
  cases hg : (ok && decide (p' = e))
  · rw [hg] at f3
    refine ⟨J', up2 (upB (upB (upB (upB B 4 (mv (B 1) (B 4) 226)) 1 (tr (B 1) u 50)) 1 (upd (tr (B 1) u 50) (5 + u) (nI e))) 1 (B 1)) 1 3 0, ?_, mj, fun k h1 h4 => ?_, ?_⟩
    · rw [if_neg (show ¬ false = true by decide), ew, f3, if_pos (by decide), sX10_text_104, sX10_text_105, m_I8, Option.bind_some, if_pos rfl, m_R3, Option.bind_some, m_R0, Option.bind_some, m_moveAll (by omega) (by omega) (by decide), Option.bind_some, sX10_text_128, m_R0, Option.bind_some, show ∀ B', ab_ast (mW J' B') 1 3 0 = some (mW J' (up2 B' 1 3 0)) from fun B' => m_S1 J' B' (j := 3) 0 (by decide), Option.bind_some, if_pos rfl, f2, show mv (upB (upB (upB B 4 (mv (B 1) (B 4) 226)) 1 (tr (B 1) u 50)) 1 (upd (tr (B 1) u 50) (5 + u) (nI e)) 4) (upB (upB (upB B 4 (mv (B 1) (B 4) 226)) 1 (tr (B 1) u 50)) 1 (upd (tr (B 1) u 50) (5 + u) (nI e)) 1) 226 = B 1 from ?_]
      funext i
      rw [upB_ne (by decide), upB_ne (by decide), upB_at, upB_at, mv]
      by_cases hi : i < 226
      · rw [if_pos hi, mv_at hi]
      · rw [if_neg hi, upd_ne (by omega), tr_out (by omega)]
    · rw [up2_ne h1, upB_ne h1, upB_ne h1, upB_ne h1, upB_ne h4]
    · rw [if_neg (show ¬ false = true by decide), up2_at, upB_at]
  · rw [hg] at f3
    refine ⟨J', up2 (upB (upB (upB B 4 (mv (B 1) (B 4) 226)) 1 (tr (B 1) u 50)) 1 (upd (tr (B 1) u 50) (5 + u) (nI e))) 1 3 0, ?_, mj, fun k h1 h4 => ?_, ?_⟩
    · rw [if_pos rfl, ew, f3, if_neg (by decide), if_pos rfl, sX10_text_105, m_I8, Option.bind_some, if_neg (by decide), sX10_text_128, m_R0, Option.bind_some, show ∀ B', ab_ast (mW J' B') 1 3 0 = some (mW J' (up2 B' 1 3 0)) from fun B' => m_S1 J' B' (j := 3) 0 (by decide), Option.bind_some, if_neg (by decide)]
    · rw [up2_ne h1, upB_ne h1, upB_ne h1, upB_ne h4]
    · rw [if_pos rfl, up2_at, upB_at]
/-- a use's law is another one, and the tape is empty -/
theorem RR.text {I' J' : Nat → Int32} {A' B' : Nat → Nat → Int32} {g : Int32 → Int32 → Int32 → Nat} (h : RR n I A J B) (hu : u < 2) (hI : ∀ i, ¬ iJ i → i ≠ 3 → i ≠ 5 + u → I' i = I i) (hI3 : I' 3 = 0) (hA : ∀ k, ¬ aJ k → k ≠ 31 + 3 * u → A' k = A k) (hJ : mJ J J') (hB : ∀ k, k ≠ 1 → ¬ bJ k → B' k = B k) (hB3 : B' 1 3 = 0) (hx : ∀ i, i ≠ 3 → i ≠ 5 + u → ¬ (126 + 50 * u ≤ i ∧ i < 126 + 50 * u + 50) → B' 1 i = B 1 i) (hg : gOk u g) (hM : LM u (B' 1 (5 + u)) (fun j => B' 1 (126 + 50 * u + j)) g) (hC : LC u (I' (5 + u)) (A' (31 + 3 * u)) g) : RR n I' A' J' B' := by
  obtain ⟨⟨d1, d2, d3, d4, ⟨g0, ga, l0, c0⟩, ⟨g1, gb, l1, c1⟩⟩, h2, h3, h4, h5, k1, k2⟩ := h
  obtain ⟨j4, j5, j22⟩ := hJ
  have a : ∀ k, k = 1 ∨ k = 12 ∨ k = 13 ∨ k = 19 ∨ k = 21 ∨ k = 38 ∨ k = 40 ∨ k = 50 ∨ k = 53 ∨ k = 64 ∨ k = 4 ∨ k = 6 ∨ k = 8 ∨ k = 10 → A' k = A k := fun k hk => hA k (by unfold aJ; omega) (by omega)
  refine ⟨⟨fun i hi => ?_, fun j hj => ?_, fun j hj => ?_, fun i hi i1 => ?_, ?_, ?_⟩, ?_, fun s hs => ?_, ?_, ?_, ?_, ?_⟩
  · obtain ⟨hi1, hi2, hi3⟩ := hi
    by_cases e3 : i = 3
    · rw [e3, hI3, hB3]
    · rw [hI i (by unfold iJ; omega) e3 (by omega), hx i e3 (by omega) (by omega)]; exact d1 i ⟨hi1, hi2, hi3⟩
  · rw [a 19 (by omega), hx _ (by omega) (by omega) (by omega)]; exact d2 j hj
  · rw [a 21 (by omega), hx _ (by omega) (by omega) (by omega)]; exact d3 j hj
  · obtain ⟨hi1, hi2, hi3⟩ := hi
    by_cases e3 : i = 3
    · rw [e3, hB3]; exact inN_0
    · rw [hx i e3 (by omega) (by omega)]; exact d4 i ⟨hi1, hi2, hi3⟩ i1
  · rcases (show u = 0 ∨ u = 1 by omega) with rfl | rfl
    · exact ⟨g, hg, hM, hC⟩
    · refine ⟨g0, ga, ?_, ?_⟩
      · rw [hx 5 (by decide) (by decide) (by decide)]; exact l0.congr (fun j hj => hx _ (by omega) (by omega) (by omega))
      · rw [hI 5 (by unfold iJ; omega) (by decide) (by decide), hA 31 (by unfold aJ; omega) (by decide)]; exact c0
  · rcases (show u = 0 ∨ u = 1 by omega) with rfl | rfl
    · refine ⟨g1, gb, ?_, ?_⟩
      · rw [hx 6 (by decide) (by decide) (by decide)]; exact l1.congr (fun j hj => hx _ (by omega) (by omega) (by omega))
      · rw [hI 6 (by unfold iJ; omega) (by decide) (by decide), hA 34 (by unfold aJ; omega) (by decide)]; exact c1
    · exact ⟨g, hg, hM, hC⟩
  · rw [a 1 (by omega), hB 5 (by decide) (by simp [bJ])]; exact h2
  · obtain ⟨g1, g2, g3, g4, g5⟩ := h3 s hs
    rw [hI _ (by unfold iJ; omega) (by omega) (by omega), hI _ (by unfold iJ; omega) (by omega) (by omega), hB 8 (by decide) (by simp [bJ]), hB 9 (by decide) (by simp [bJ]), hB 10 (by decide) (by simp [bJ]), a _ (by omega)]
    exact ⟨g1, g2, g3, g4, g5⟩
  · rw [a 12 (by omega), a 13 (by omega)]; exact h4
  · rw [hI 424 (by unfold iJ; omega) (by omega) (by omega), a 64 (by omega), hB 12 (by decide) (by simp [bJ]), j22]; exact h5
  · rw [hI 408 (by unfold iJ; omega) (by omega) (by omega), j5]; exact k1
  · rw [j4, j5, a 38 (by omega), a 40 (by omega), a 50 (by omega), a 53 (by omega), hB 2 (by decide) (by simp [bJ])]
    rcases k2 with k2 | ⟨k2, k3, k4⟩
    · exact Or.inl k2
    · exact Or.inr ⟨k2, k3, k4.congr (fun i hi => hI _ (by unfold iJ; omega) (by omega) (by omega))⟩
theorem c_copyT (hu : u < 2) : sX2_copyFrom (30 + 3 * u) 59 (cW I A tp) = some (cW (upd I (5 + u) (I 423)) (upB A (31 + 3 * u) (va_cpy (A 60) (A (31 + 3 * u)) 0 0 50)) tp) := by
  rcases (show u = 0 ∨ u = 1 by omega) with rfl | rfl
  · rw [sX2_copyFrom, if_pos (c_uis I A tp (u := 0) (by decide)), c_R59_0, Option.bind_some, c_u0 I A tp (u := 0) (by decide), Option.bind_some, show ab_cpy (cW I A tp) 60 0 31 0 50 = some (cW I (upB A 31 (va_cpy (A 60) (A 31) 0 0 50)) tp) from rfl, Option.bind_some, c_I59_2, Option.bind_some, show ∀ A', ab_putI (cW I A' tp) 2 30 2 (I 423) = some (cW (upd I 5 (I 423)) A' tp) from fun A' => rfl]; rfl
  · rw [sX2_copyFrom, if_pos (c_uis I A tp (u := 1) (by decide)), c_R59_0, Option.bind_some, c_u0 I A tp (u := 1) (by decide), Option.bind_some, show ab_cpy (cW I A tp) 60 0 34 0 50 = some (cW I (upB A 34 (va_cpy (A 60) (A 34) 0 0 50)) tp) from rfl, Option.bind_some, c_I59_2, Option.bind_some, show ∀ A', ab_putI (cW I A' tp) 2 33 2 (I 423) = some (cW (upd I 6 (I 423)) A' tp) from fun A' => rfl]; rfl
theorem op_text (h : RR n I A J B) (k : Int32) : OK n (sX9_text 0 k (cW I A tp)) (sX10_text 0 k (mW J B)) := by
  by_cases hk : inR k 0 1
  · obtain ⟨u, _, hu1, rfl⟩ := hk
    have hu : u < 2 := by omega
    obtain ⟨e, he, b3, i3⟩ := h.val (i := 3) (by unfold okI; omega) (by decide)
    have he : e ≤ 50 := he
    obtain ⟨ok, p', code, ℓ, val, _, hp', hC, hM, hok⟩ := nt_top (t := fun j => B 1 (56 + j)) he hu
    obtain ⟨J', B', m0, m1, m2, m3⟩ := m_text (J := J) he hu hp' hM b3
    obtain ⟨I1, A1, z1, f0, f1, f2, f3, f4, f5, f6⟩ := c_read (I := I) (A := A) (tp := tp) he hp' hC (fun j hj => h.1.2.1 j hj)
    have ec : sX9_text 0 (nI u) (cW I A tp) = if bI (ok && decide (p' = e)) = 0 then some (-10 - I1 420, cW (upd I1 3 0) A1 19) else some (1, cW (upd (upd I1 3 0) (5 + u) (I1 423)) (upB A1 (31 + 3 * u) (va_cpy (A1 60) (A1 (31 + 3 * u)) 0 0 50)) 19) := by
      rw [sX9_text, if_pos (c_is0 I A tp), show sX9_within (nI u) 0 1 (cW I A tp) = some (1, cW I A tp) from c_in_T (lo := 0) (hi := 1) _ (by decide) (by decide) ⟨u, by omega, by omega, rfl⟩, ab_b2_some, if_neg (by decide), c_R0_6, Option.bind_some, c_R0_3, Option.bind_some, c_R17_1, Option.bind_some, Option.bind_some, c_I17_7, Option.bind_some, i3, f0, ab_b2_some, c_R0_3, Option.bind_some, c_P17_7, Option.bind_some, c_R0_6, Option.bind_some, c_I58_1, Option.bind_some, c_R0_3, Option.bind_some, c_R17_2, Option.bind_some, show ab_rald (cW (upd I1 3 0) A1 19) 2 20 (nI u) = some (30 + 3 * u) from c_Q20 _ _ _ hu, Option.bind_some, Option.bind_some, c_R58_0, Option.bind_some, c_copyT hu, Option.bind_some, upd_ne (show (420 : Nat) ≠ 3 by decide), upd_ne (show (423 : Nat) ≠ 3 by decide)]
    cases hg : (ok && decide (p' = e))
    · rw [hg] at m0 m3 ec
      rw [if_neg (show ¬ false = true by decide)] at m0 m3
      rw [if_pos (by decide), f3] at ec
      refine ⟨-10 - nI p', _, _, _, _, _, ec, m0, ?_⟩
      refine ((h.desk (i := 3) (v := 0) (by unfold okI; omega) (Or.inr inN_0)).congr ⟨fun i hi => ?_, fun k hk => ?_⟩ ⟨m1, fun k hk => ?_⟩).mono
      · by_cases e3 : i = 3
        · rw [e3, upd_same, upd_same]
        · rw [upd_ne e3, upd_ne e3]
          exact f1 i (fun h => hi (by unfold iJ; omega))
      · exact f2 k (fun h => hk (by unfold aJ; omega))
      · by_cases e1 : k = 1
        · rw [e1, m3, up2_at]
        · rw [up2_ne e1]; exact m2 k e1 (fun h => hk (by unfold bJ; omega))
    · rw [hg] at m0 m3 ec
      rw [if_pos rfl] at m0 m3
      rw [if_neg (by decide)] at ec
      have hok1 : ok = true := by cases ok; exact absurd hg (by simp); rfl
      have hpe : p' = e := by rw [hok1] at hg; simpa using hg
      subst hpe
      subst hok1
      obtain ⟨hlt, hl1, hR⟩ := hok rfl
      obtain ⟨hz, hco⟩ := f6 rfl
      refine ⟨1, _, _, _, _, _, ec, m0, ?_⟩
      refine (h.text (u := u) (g := fun a b c => clm (mst u) (val a b c)) hu (fun i hi h3 h5 => ?_) ?_ (fun k hk h31 => ?_) m1 (fun k h1 hk => m2 k h1 (fun h => hk (by unfold bJ; omega))) ?_ (fun i h3 h5 hi => ?_) (fun a b c => clm_le _ _) ?_ ?_).mono
      · rw [upd_ne h5, upd_ne h3]
        exact f1 i (fun h => hi (by unfold iJ; omega))
      · rw [upd_ne (by omega), upd_same]
      · rw [upB_ne h31]; exact f2 k (fun h => hk (by unfold aJ; omega))
      · rw [m3, upd_same]
      · rw [m3, upd_ne h3, upd_ne h5, tr_out hi]
      · rw [m3, upd_ne (by omega), upd_same]
        exact (LM_text he hu hM).congr (fun j hj => by rw [upd_ne (by omega), upd_ne (by omega), tr_in hj])
      · rw [upd_same, upB_at, f4, hz]
        exact LC_text hu hl1 (by omega) hR (fun q hq => by rw [cpy_at (by omega)]; exact hco q hq)
  · refine ok_err (-1000000001) 1 (by omega) h (tp := tp) ?_ ?_
    · rw [sX9_text, if_pos (c_is0 I A tp), show sX9_within k 0 1 (cW I A tp) = some (0, cW I A tp) from c_in_F (lo := 0) (hi := 1) _ (by decide) (by decide) hk, ab_b2_some, if_pos rfl, c_err1]; rfl
    · rw [sX10_text, if_pos (m_is J B), show sX10_in k 0 1 (mW J B) = some (0, mW J B) from m_in_F (lo := 0) (hi := 1) _ (by decide) (by decide) hk, ab_b2_some, if_pos rfl, m_err1]; rfl
end TX
