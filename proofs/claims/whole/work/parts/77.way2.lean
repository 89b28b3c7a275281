section WY
variable {I J : Nat → Int32} {A B : Nat → Nat → Int32} {tp st s : Nat}
def GI (st s n x : Nat) (ρ : Nat → Int32) : Prop := ∀ v, v < 128 → (∃ k, k ≤ n ∧ ρ v = nI k ∧ Mn st s k v) ∨ (¬ Rc st s n v ∧ ((ρ v = nI (n + 1) ∧ Rc st s (n + 1) v) ∨ (ρ v = -1 ∧ ∀ y, y < x → ¬ (Mn st s n (y / 7) ∧ v = (y / 7) ^^^ 2 ^ (y % 7) ∧ thk v ≤ st))))
theorem GI.at {n x : Nat} {ρ : Nat → Int32} (h : GI st s n x ρ) (hn : n ≤ 200) {u : Nat} (hu : u < 128) : ρ u = nI n ↔ Mn st s n u := by
  rcases h u hu with ⟨k, hk, e, hM⟩ | ⟨hR, h2⟩
  · constructor
    · intro e2
      have := (nI_eq (by omega) (by omega)).mp (e.symm.trans e2)
      subst this
      exact hM
    · intro hM2
      rw [Mn_uniq hM2 hM]; exact e
  · constructor
    · intro e2
      rcases h2 with ⟨e, -⟩ | ⟨e, -⟩
      · have := (nI_eq (by omega) (by omega)).mp (e.symm.trans e2)
        omega
      · exact absurd (e2.symm.trans e) (neg1 (by omega))
    · intro hM2
      exact absurd hM2.1 hR
theorem GI.mono {n x x' : Nat} {ρ : Nat → Int32} (h : GI st s n x ρ) (hE : ∀ v y, v < 128 → ρ v = -1 → x ≤ y → y < x' → ¬ (Mn st s n (y / 7) ∧ v = (y / 7) ^^^ 2 ^ (y % 7) ∧ thk v ≤ st)) : GI st s n x' ρ := by
  intro v hv
  rcases h v hv with h1 | ⟨hR, h2⟩
  · exact Or.inl h1
  · refine Or.inr ⟨hR, ?_⟩
    rcases h2 with h2 | ⟨e, h3⟩
    · exact Or.inl h2
    · refine Or.inr ⟨e, fun y hy => ?_⟩
      by_cases hyx : y < x
      · exact h3 y hyx
      · exact hE v y hv e (by omega) hy
theorem GI.next {n : Nat} {ρ : Nat → Int32} (h : GI st s n 896 ρ) (hs : s < 128) : GI st s (n + 1) 0 ρ := by
  intro v hv
  rcases h v hv with ⟨k, hk, e, hM⟩ | ⟨hR, h2⟩
  · exact Or.inl ⟨k, by omega, e, hM⟩
  · rcases h2 with ⟨e, hR2⟩ | ⟨e, h3⟩
    · refine Or.inl ⟨n + 1, Nat.le_refl _, e, hR2, fun m hm hRm => hR ?_⟩
      have := Rc_mono hRm (n - m)
      rw [show m + (n - m) = n by omega] at this
      exact this
    · refine Or.inr ⟨fun hR2 => ?_, Or.inr ⟨e, fun y hy => absurd hy (by omega)⟩⟩
      rcases hR2 with hR2 | ⟨f, hf, hw, ht⟩
      · exact hR hR2
      · have hu := Rc_lt hs n _ hw
        have hM : Mn st s n (v ^^^ 2 ^ f) := by
          refine ⟨hw, fun m hm hRm => hR ?_⟩
          have h1 : Rc st s (m + 1) v := Or.inr ⟨f, hf, hRm, ht⟩
          have := Rc_mono h1 (n - (m + 1))
          rw [show m + 1 + (n - (m + 1)) = n by omega] at this
          exact this
        refine h3 (7 * (v ^^^ 2 ^ f) + f) (by omega) ?_
        rw [show (7 * (v ^^^ 2 ^ f) + f) / 7 = v ^^^ 2 ^ f by omega, show (7 * (v ^^^ 2 ^ f) + f) % 7 = f by omega]
        exact ⟨hM, (xx v f).symm, ht⟩
def m67 (B B' : Nat → Nat → Int32) : Prop := ∀ k, k ≠ 6 → k ≠ 7 → B' k = B k
theorem m_way_86 {k57 : Nat → Int32 → Int32 → Int32 → ab_W → Option (Int32 × ab_W)} {k76 : Nat → Int32 → Int32 → Int32 → Int32 → ab_W → Option (Int32 × ab_W)} {j kd mm n c : Nat} {t : Int32} (hj : j < 8) (hk : B 1 (8 + 6 * j + 0) = nI kd) (hm : B 1 (8 + 6 * j + 1) = nI mm) (k6 : kd ≤ 6) (m9 : mm ≤ 9) (hn : n < 128) (hc : c < 128) : ∀ (m f kf : Nat) (B1 : Nat → Nat → Int32), f + m = 7 → m67 B B1 → GI (stf kd mm) s n (7 * c + f) (B1 7) → ∃ B2, sX10_way_86 k57 k76 (kf + m + 1) 0 (nI j) t (nI n) (nI c) (nI f) (mW J B1) = k76 0 (nI j) t (nI n) (nI (c + 1)) (mW J B2) ∧ m67 B B2 ∧ GI (stf kd mm) s n (7 * (c + 1)) (B2 7) := by
  have hst := stf_rng k6 m9
  intro m
  induction m with
  | zero =>
    intro f kf B1 hf h6 hG
    have : f = 7 := by omega
    subst this
    refine ⟨B1, ?_, h6, hG⟩
    rw [sX10_way_86, if_neg (by decide), sX10_way_153, nI_1]
  | succ m ih =>
    intro f kf B1 hf h6 hG
    have hf7 : f < 7 := by omega
    obtain ⟨fx1, fx2⟩ := fx hc hf7
    have hth := (mxl_thk fx2).2
    have d7 : (7 * c + f) / 7 = c := by omega
    have r7 : (7 * c + f) % 7 = f := by omega
    rw [show kf + (m + 1) + 1 = (kf + m + 1) + 1 by omega, sX10_way_86, if_pos (show nI f < 7 from nI_lt (b := 7) hf7 (by decide)), m_R16, Option.bind_some, m_A7 J B1 hc, Option.bind_some]
    by_cases hM : Mn (stf kd mm) s n c
    · rw [if_pos ((hG.at (by omega) hc).mpr hM), Option.bind_some, fx1, m_A7 J B1 fx2, Option.bind_some]
      by_cases hneg : B1 7 (c ^^^ 2 ^ f) = -1
      · rw [hneg, if_pos (by decide), m_thick fx2, ab_b2_some]
        have h62 : m67 B (upB B1 6 (lyF (c ^^^ 2 ^ f) 7 (B1 6))) := fun k a b => by rw [upB_ne a]; exact h6 k a b
        have e7 : upB B1 6 (lyF (c ^^^ 2 ^ f) 7 (B1 6)) 7 = B1 7 := upB_ne (by decide)
        rw [m_stiff hj (by rw [h62 1 (by decide) (by decide)]; exact hk) (by rw [h62 1 (by decide) (by decide)]; exact hm) k6 m9, ab_b2_some]
        by_cases hlt : stf kd mm < thk (c ^^^ 2 ^ f)
        · rw [if_pos (nI_lt hlt (by omega)), sX10_way_147, nI_1]
          refine ih (f + 1) kf _ (by omega) h62 ?_
          rw [e7]
          refine hG.mono (fun v y hv hr h1 h2 hE => ?_)
          have hy : y = 7 * c + f := by omega
          subst hy
          rw [d7, r7] at hE
          obtain ⟨-, rfl, h4⟩ := hE
          omega
        · rw [if_neg (nI_nlt (by omega) (by omega)), m_R16, Option.bind_some, m_S7 _ _ _ fx2, Option.bind_some, sX10_way_147, nI_1, nI_1]
          refine ih (f + 1) kf _ (by omega) (fun k a b => by rw [up2_ne b]; exact h62 k a b) ?_
          rw [up2_at, e7]
          intro v hv
          by_cases ev : v = c ^^^ 2 ^ f
          · subst ev
            rw [upd_same]
            rcases hG _ hv with ⟨k, hk', e, -⟩ | ⟨hR, -⟩
            · exact absurd (e.symm.trans hneg) (neg1 (by omega))
            · exact Or.inr ⟨hR, Or.inl ⟨rfl, Or.inr ⟨f, hf7, by rw [xx]; exact hM.1, by omega⟩⟩⟩
          · rw [upd_ne ev]
            rcases hG v hv with h1 | ⟨hR, h2⟩
            · exact Or.inl h1
            · refine Or.inr ⟨hR, ?_⟩
              rcases h2 with h2 | ⟨e, h3⟩
              · exact Or.inl h2
              · refine Or.inr ⟨e, fun y hy hE => ?_⟩
                by_cases hyx : y < 7 * c + f
                · exact h3 y hyx hE
                · have hy : y = 7 * c + f := by omega
                  subst hy
                  rw [d7, r7] at hE
                  exact ev hE.2.1
      · have hnn : ¬ B1 7 (c ^^^ 2 ^ f) < 0 := by
          rcases hG _ fx2 with ⟨k, hk', e, -⟩ | ⟨-, ⟨e, -⟩ | ⟨e, -⟩⟩
          · rw [e]; exact nI_pos (by omega)
          · rw [e]; exact nI_pos (by omega)
          · exact absurd e hneg
        rw [if_neg hnn, sX10_way_147, nI_1]
        refine ih (f + 1) kf B1 (by omega) h6 (hG.mono (fun v y hv hr h1 h2 hE => ?_))
        have hy : y = 7 * c + f := by omega
        subst hy
        rw [d7, r7] at hE
        obtain ⟨-, rfl, -⟩ := hE
        exact hneg hr
    · rw [if_neg (fun e => hM ((hG.at (by omega) hc).mp e)), sX10_way_153, nI_1]
      refine ⟨B1, rfl, h6, hG.mono (fun v y hv hr h1 h2 hE => ?_)⟩
      have hy : y / 7 = c := by omega
      rw [hy] at hE
      exact hM hE.1
theorem m_way_76 {k57 : Nat → Int32 → Int32 → Int32 → ab_W → Option (Int32 × ab_W)} {j kd mm n : Nat} {t : Int32} (hs : s < 128) (hj : j < 8) (hk : B 1 (8 + 6 * j + 0) = nI kd) (hm : B 1 (8 + 6 * j + 1) = nI mm) (k6 : kd ≤ 6) (m9 : mm ≤ 9) (hn : n < 128) : ∀ (m c kf : Nat) (B1 : Nat → Nat → Int32), c + m = 128 → m67 B B1 → GI (stf kd mm) s n (7 * c) (B1 7) → ∃ B2, sX10_way_76 k57 (kf + m + 1) 0 (nI j) t (nI n) (nI c) (mW J B1) = k57 0 (nI j) t (nI (n + 1)) (mW J B2) ∧ m67 B B2 ∧ GI (stf kd mm) s (n + 1) 0 (B2 7) := by
  intro m
  induction m with
  | zero =>
    intro c kf B1 hc h6 hG
    have : c = 128 := by omega
    subst this
    refine ⟨B1, ?_, h6, hG.next hs⟩
    rw [sX10_way_76, if_pos (by decide), nI_1]
  | succ m ih =>
    intro c kf B1 hc h6 hG
    obtain ⟨B2, e, h62, hG2⟩ := m_way_86 (J := J) (B := B) (k57 := k57) (k76 := sX10_way_76 k57 (kf + m + 1)) (t := t) hj hk hm k6 m9 hn (show c < 128 by omega) 7 0 992 B1 rfl h6 hG
    rw [show kf + (m + 1) + 1 = (kf + m + 1) + 1 by omega, sX10_way_76, if_neg (show ¬ (127 : Int32) < nI c from nI_nlt (a := 127) (by omega) (by decide)), show sX10_way_86 k57 (sX10_way_76 k57 (kf + m + 1)) 1000 0 (nI j) t (nI n) (nI c) 0 (mW J B1) = _ from e]
    exact ih (c + 1) kf B2 (by omega) h62 hG2
theorem m_way_57 {j kd mm t : Nat} (hs : s < 128) (hj : j < 8) (hk : B 1 (8 + 6 * j + 0) = nI kd) (hm : B 1 (8 + 6 * j + 1) = nI mm) (k6 : kd ≤ 6) (m9 : mm ≤ 9) (ht : t < 128) : ∀ (m n kf : Nat) (B1 : Nat → Nat → Int32), n + m = 128 → m67 B B1 → GI (stf kd mm) s n 0 (B1 7) → ∃ v B2, sX10_way_57 (kf + m + 1) 0 (nI j) (nI t) (nI n) (mW J B1) = (if v < 0 then ab_b2 (sX10_errs 0 (-1000000002) (mW J B2)) fun v3 w4 => some (v3, w4) else some (v, mW J B2)) ∧ m67 B B2 ∧ ((v = -1 ∧ ¬ Rc (stf kd mm) s 128 t) ∨ ∃ k, k ≤ 129 ∧ v = nI k ∧ Mn (stf kd mm) s k t) := by
  have e165 : ∀ B1, sX10_way_165 0 (nI t) (mW J B1) = (if B1 7 t < 0 then ab_b2 (sX10_errs 0 (-1000000002) (mW J B1)) fun v3 w4 => some (v3, w4) else some (B1 7 t, mW J B1)) := fun B1 => by
    rw [sX10_way_165, m_R16, Option.bind_some, m_A7 J B1 ht, Option.bind_some, Option.bind_some, m_A7 J B1 ht, Option.bind_some]
  intro m
  induction m with
  | zero =>
    intro n kf B1 hn h6 hG
    have : n = 128 := by omega
    subst this
    refine ⟨B1 7 t, B1, ?_, h6, ?_⟩
    · rw [sX10_way_57, if_neg (by decide), e165]
    · rcases hG t ht with ⟨k, k1, k2, k3⟩ | ⟨hR, ⟨e, hR2⟩ | ⟨e, -⟩⟩
      · exact Or.inr ⟨k, by omega, k2, k3⟩
      · refine Or.inr ⟨129, by omega, e, hR2, fun m hm hRm => hR ?_⟩
        have := Rc_mono hRm (128 - m)
        rw [show m + (128 - m) = 128 by omega] at this
        exact this
      · exact Or.inl ⟨e, hR⟩
  | succ m ih =>
    intro n kf B1 hn h6 hG
    rw [show kf + (m + 1) + 1 = (kf + m + 1) + 1 by omega, sX10_way_57, if_pos (show nI n < 128 from nI_lt (b := 128) (by omega) (by decide)), m_R16, Option.bind_some, m_A7 J B1 ht, Option.bind_some]
    by_cases hneg : B1 7 t < 0
    · obtain ⟨B2, e, h62, hG2⟩ := m_way_76 (J := J) (B := B) (k57 := sX10_way_57 (kf + m + 1)) (t := nI t) hs hj hk hm k6 m9 (show n < 128 by omega) 128 0 871 B1 rfl h6 hG
      rw [if_pos hneg, show sX10_way_76 (sX10_way_57 (kf + m + 1)) 1000 0 (nI j) (nI t) (nI n) 0 (mW J B1) = _ from e]
      exact ih (n + 1) kf B2 (by omega) h62 hG2
    · rw [if_neg hneg, e165]
      refine ⟨B1 7 t, B1, rfl, h6, ?_⟩
      rcases hG t ht with ⟨k, k1, k2, k3⟩ | ⟨hR, ⟨e, hR2⟩ | ⟨e, -⟩⟩
      · exact Or.inr ⟨k, by omega, k2, k3⟩
      · refine Or.inr ⟨n + 1, by omega, e, hR2, fun m hm hRm => hR ?_⟩
        have := Rc_mono hRm (n - m)
        rw [show m + (n - m) = n by omega] at this
        exact this
      · rw [e] at hneg
        exact absurd (by decide) hneg
theorem m_way_24 {j t : Nat} {F : Nat → Int32} (hj : j < 8) (hs : s < 128) (hc : B 1 (8 + 6 * j + 3) = nI s) : ∀ (m c kf : Nat), c + m = 128 → sX10_way_24 (kf + m + 1) 0 (nI j) (nI t) (nI c) (mW J (upB B 7 (mf F c))) = sX10_way_57 1000 0 (nI j) (nI t) 0 (mW J (upB B 7 (upd (mf F 128) s 0))) := by
  intro m
  induction m with
  | zero =>
    intro c kf hc'
    have : c = 128 := by omega
    subst this
    rw [sX10_way_24, if_pos (by decide), m_R16, Option.bind_some, m_i3 hj, ab_b2_some, upB_ne (by decide), hc, m_S7 _ _ _ hs, Option.bind_some, upB_up2]
  | succ m ih =>
    intro c kf hc'
    rw [show kf + (m + 1) + 1 = (kf + m + 1) + 1 by omega, sX10_way_24, if_neg (show ¬ (127 : Int32) < nI c from nI_nlt (a := 127) (by omega) (by decide)), m_R16, Option.bind_some, m_S7 _ _ _ (by omega), Option.bind_some, upB_up2, mf_step, nI_1]
    exact ih (c + 1) kf (by omega)
end WY
section OP
variable {n : Nat} {I J : Nat → Int32} {A B : Nat → Nat → Int32} {tp : Nat}
theorem op_way (h : RR n I A J B) (kk v : Int32) : OK n (sX9_way 0 kk v (cW I A tp)) (sX10_way 0 kk v (mW J B)) := by
  obtain ⟨c, hc8, hcB, hcI⟩ := h.many
  by_cases hp : isP kk c
  · obtain ⟨j, hj, rfl⟩ := hp
    have hj8 : j < 8 := by omega
    by_cases hv : inR v 0 127
    · have hv2 := hv
      obtain ⟨t, -, t7, rfl⟩ := hv
      obtain ⟨kd, k6, kB, kI⟩ := h.pv (q := 0) hj8 (by decide)
      obtain ⟨mm, m9, mB, mI⟩ := h.pv (q := 1) hj8 (by decide)
      obtain ⟨s, s7, sB, sI⟩ := h.pv (q := 3) hj8 (by decide)
      simp only [List.getD_cons_zero, List.getD_cons_succ] at k6 m9 s7
      have hst := stf_rng k6 m9
      have hs : s < 128 := by omega
      have ht : t < 128 := by omega
      obtain ⟨x, A2, e1, e2, e3⟩ := c_folds (I := I) (A := A) (tp := tp) (st := stf kd mm) (s := s) (t := t) h.2.2.2.1 hs hst.2 ht
      have f24 := m_way_24 (J := J) (B := B) (t := t) (F := B 7) hj8 hs sB 128 0 871 rfl
      rw [mf_0, upB_id] at f24
      obtain ⟨y, B2, f1, f2, f3⟩ := m_way_57 (J := J) (B := B) (s := s) (t := t) hs hj8 kB mB k6 m9 ht 128 0 871 (upB B 7 (upd (mf (B 7) 128) s 0)) rfl (fun k a b => upB_ne b) (by
        rw [upB_at]
        intro u hu
        by_cases e : u = s
        · subst e; exact Or.inl ⟨0, Nat.le_refl _, upd_same _ _ _, rfl, fun m hm => absurd hm (by omega)⟩
        · exact Or.inr ⟨e, Or.inr ⟨by rw [upd_ne e, mf, if_pos hu], fun z hz => absurd hz (by omega)⟩⟩)
      have hxy : x = y := by
        rcases e3 with ⟨rfl, hn⟩ | ⟨d, d1, rfl, hd⟩
        · rcases f3 with ⟨rfl, -⟩ | ⟨k, -, -, hk⟩
          · rfl
          · exact absurd hk.1 (hn k)
        · rcases f3 with ⟨-, hR⟩ | ⟨k, k1, rfl, hk⟩
          · refine absurd ?_ hR
            have := Rc_mono hd.1 (128 - d)
            rw [show d + (128 - d) = 128 by omega] at this
            exact this
          · rw [Mn_uniq hd hk]
      subst hxy
      have ec : sX9_way 0 (nI j) (nI t) (cW I A tp) = ab_b2 (if x < 0 then ab_b2 (sX9_fail 0 2 (cW I A2 tp)) fun v1 w2 => some (v1, w2) else some (x, cW I A2 tp)) fun v15 w16 => some (v15, w16) := by
        rw [sX9_way, if_pos (c_is0 I A tp), c_R0_3, Option.bind_some, c_has_T hcI hj hc8, ab_b2_some, if_neg (by decide), cT_0_127 hv2, ab_b2_some, if_neg (by decide), c_R0_3, Option.bind_some, c_R17_0, Option.bind_some, c_Q18 I A tp hj8, Option.bind_some, c_R0_2, Option.bind_some, c_pI I A tp hj8 3 (by decide), Option.bind_some, sI, c_stiff hj8 kI mI k6 m9, ab_b2_some, e1, ab_b2_some, sX9_orNone, if_pos (c_is0 I A2 tp)]
      have em : sX10_way 0 (nI j) (nI t) (mW J B) = (if x < 0 then ab_b2 (sX10_errs 0 (-1000000002) (mW J B2)) fun v3 w4 => some (v3, w4) else some (x, mW J B2)) := by
        rw [sX10_way, if_pos (m_is J B), m_isP_T hcB hj hc8, ab_b2_some, if_neg (by decide), show sX10_isSet (nI t) (mW J B) = some (1, mW J B) from by rw [sX10_isSet, mT_0_127 hv2]; rfl, ab_b2_some, if_neg (by decide), show sX10_way_24 1000 0 (nI j) (nI t) 0 (mW J B) = _ from f24]
        exact f1
      have hE : cE I A I A2 := ⟨fun _ _ => rfl, fun k hk => e2 k (by unfold aJ at hk; omega) (by unfold aJ at hk; omega)⟩
      have hmE : mE J B J B2 := ⟨mJ.refl J, fun k hk => f2 k (by unfold bJ at hk; omega) (by unfold bJ at hk; omega)⟩
      rw [ec, em]
      by_cases hx : x < 0
      · rw [if_pos hx, if_pos hx]
        exact ok_err (tp := tp) (-1000000002) 2 (by decide) (h.congr hE hmE) rfl rfl
      · rw [if_neg hx, if_neg hx]
        exact ok_same (tp := tp) x h rfl rfl hE hmE
    · refine ok_err (tp := tp) (-1000000001) 1 (by decide) h ?_ ?_
      · rw [sX9_way, if_pos (c_is0 I A tp), c_R0_3, Option.bind_some, c_has_T hcI hj hc8, ab_b2_some, if_neg (by decide), cF_0_127 hv]
        rfl
      · rw [sX10_way, if_pos (m_is J B), m_isP_T hcB hj hc8, ab_b2_some, if_neg (by decide), show sX10_isSet v (mW J B) = some (0, mW J B) from by rw [sX10_isSet, mF_0_127 hv]; rfl]
        rfl
  · refine ok_err (tp := tp) (-1000000001) 1 (by decide) h ?_ ?_
    · rw [sX9_way, if_pos (c_is0 I A tp), c_R0_3, Option.bind_some, c_has_F hcI hc8 hp]
      rfl
    · rw [sX10_way, if_pos (m_is J B), m_isP_F hcB hc8 hp]
      rfl
theorem op_law (h : RR n I A J B) (u a b c : Int32) : OK n (sX9_law 0 u a b c (cW I A tp)) (sX10_law 0 u a b c (mW J B)) := by
  by_cases hu : inR u 0 1
  · have hu2 := hu
    obtain ⟨q, -, q1, rfl⟩ := hu
    obtain ⟨⟨d1, d2, d3, d4, ⟨g0, ga, l0, c0⟩, ⟨g1, gb, l1, c1⟩⟩, h2, h3, h4, h5, h6⟩ := h
    have h : RR n I A J B := ⟨⟨d1, d2, d3, d4, ⟨g0, ga, l0, c0⟩, ⟨g1, gb, l1, c1⟩⟩, h2, h3, h4, h5, h6⟩
    have ec : sX9_law 0 (nI q) a b c (cW I A tp) = ab_b2 (sX0_gives 17 (nI q) a b c (cW I A tp)) fun v6 w7 => some (v6, w7) := by
      rw [sX9_law, if_pos (c_is0 I A tp), cT_0_1 hu2, ab_b2_some, if_neg (by decide), c_R0_3, Option.bind_some]
    have em : sX10_law 0 (nI q) a b c (mW J B) = ab_b2 (sX10_lawOf 0 (nI q) a b c (mW J B)) fun v5 w6 => some (v5, w6) := by
      rw [sX10_law, if_pos (m_is J B), mT_0_1 hu2, ab_b2_some, if_neg (by decide)]
    rw [ec, em]
    rcases (show q = 0 ∨ q = 1 by omega) with rfl | rfl
    · obtain ⟨J', e1, hJ⟩ := l0 J B a b c rfl (fun j hj => by rw [show 126 + 50 * 0 + j = 126 + j by omega])
      obtain ⟨f, e2⟩ := c0 I A tp a b c rfl (fun j hj => by rw [show 31 + 3 * 0 = 31 from rfl])
      rw [e1, e2]
      exact ok_same (tp := tp) (nI (g0 a b c)) h rfl rfl (cE.up f (by simp [aJ])) (mE.J hJ)
    · obtain ⟨J', e1, hJ⟩ := l1 J B a b c rfl (fun j hj => rfl)
      obtain ⟨f, e2⟩ := c1 I A tp a b c rfl (fun j hj => by rw [show 31 + 3 * 1 = 34 from rfl])
      rw [e1, e2]
      exact ok_same (tp := tp) (nI (g1 a b c)) h rfl rfl (cE.up f (by simp [aJ])) (mE.J hJ)
  · refine ok_err (tp := tp) (-1000000001) 1 (by decide) h ?_ ?_
    · rw [sX9_law, if_pos (c_is0 I A tp), cF_0_1 hu]
      rfl
    · rw [sX10_law, if_pos (m_is J B), mF_0_1 hu]
      rfl
end OP
