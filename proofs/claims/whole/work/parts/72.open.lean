section OP
variable {n : Nat} {I J : Nat → Int32} {A B : Nat → Nat → Int32} {tp : Nat}
theorem sub_bits {c o : Nat} (hc : c < 128) (ho : o < 128) : (c &&& (o ^^^ 4294967295) = 0 → o &&& (c ^^^ 4294967295) = o ^^^ c ∧ c ≤ o) ∧ c &&& (o ^^^ 4294967295) < 128 ∧ o ^^^ c < 128 := by
  have h : ∀ c, c < 128 → ∀ o, o < 128 → (c &&& (o ^^^ 4294967295) = 0 → o &&& (c ^^^ 4294967295) = o ^^^ c ∧ c ≤ o) ∧ c &&& (o ^^^ 4294967295) < 128 ∧ o ^^^ c < 128 := by decide +kernel
  exact h c hc o ho
theorem out_iff {c o : Nat} (hc : c < 128) (ho : o < 128) : ((nI c &&& (nI o ^^^ (-1))) = 0) ↔ c &&& (o ^^^ 4294967295) = 0 := by
  rw [show (-1 : Int32) = nI 4294967295 from rfl, nI_xor, nI_and]
  exact nI_eq (b := 0) (by have := (sub_bits hc ho).2.1; omega) (by decide)
theorem m_open_rest {o x : Nat} (ho : o < 128) {f : Int32} (B1 : Nat → Nat → Int32) : ∀ (m c k : Nat), c + m = 128 → o < c → sX10_open_38 (k + m + 1) 0 (nI x) (nI o) f (nI c) (mW J B1) = (if f < 0 then ab_b2 (sX10_errs 0 (-1000000002) (mW J B1)) fun v1 w2 => some (v1, w2) else some (f, mW J B1)) := by
  intro m
  induction m with
  | zero =>
    intro c k hc hlt
    have : c = 128 := by omega
    subst this
    rw [sX10_open_38, if_pos (by decide)]
  | succ m ih =>
    intro c k hc hlt
    rw [show k + (m + 1) + 1 = (k + m + 1) + 1 by omega, sX10_open_38, if_neg (show ¬ (127 : Int32) < nI c from nI_nlt (a := 127) (by omega) (by decide)), if_neg (fun e => by
      have := ((sub_bits (c := c) (o := o) (by omega) ho).1 ((out_iff (by omega) ho).mp e)).2
      omega), sX10_open_90, nI_1]
    exact ih (c + 1) k (by omega) (by omega)
theorem cm_open {o x : Nat} (hT : RT (A 12) (A 13)) (ho : o < 128) (hx : x ≤ 8) : ∀ (m c k k2 : Nat) (f : Int32) (B1 : Nat → Nat → Int32), c + m = o + 1 → (f = -1 ∧ c ≤ o ∨ ∃ b, b < 128 ∧ f = nI b) → m6 B B1 → ∃ b B', b < 128 ∧ sX6_fewestUnfolded_5 (k + m + 1) 11 (nI o) (nI x) f (nI c) (cW I A tp) = some (nI b, cW I A tp) ∧ sX10_open_38 (k2 + m + 1 + (127 - o)) 0 (nI x) (nI o) f (nI c) (mW J B1) = some (nI b, mW J B') ∧ m6 B B' := by
  intro m
  induction m with
  | zero =>
    intro c k k2 f B1 hc hf h6
    have : c = o + 1 := by omega
    subst this
    obtain ⟨b, hb, rfl⟩ := hf.resolve_left (fun e => by omega)
    refine ⟨b, B1, hb, ?_, ?_, h6⟩
    · rw [sX6_fewestUnfolded_5, if_pos (nI_lt (by omega) (by omega))]
    · have e := m_open_rest (J := J) (x := x) ho (f := nI b) B1 (127 - o) (o + 1) k2 (by omega) (by omega)
      rw [if_neg (nI_pos (by omega)), show k2 + (127 - o) + 1 = k2 + 0 + 1 + (127 - o) by omega] at e
      exact e
  | succ m ih =>
    intro c k k2 f B1 hc hf h6
    have hc128 : c < 128 := by omega
    obtain ⟨s1, s2, s3⟩ := sub_bits hc128 ho
    have hw := wid_rng s3
    rw [show k2 + (m + 1) + 1 + (127 - o) = (k2 + m + 1 + (127 - o)) + 1 by omega, show k + (m + 1) + 1 = (k + m + 1) + 1 by omega, sX6_fewestUnfolded_5, if_neg (nI_nlt (show c ≤ o by omega) (by omega)), sX10_open_38, if_neg (show ¬ (127 : Int32) < nI c from nI_nlt (a := 127) (by omega) (by decide))]
    by_cases hs : c &&& (o ^^^ 4294967295) = 0
    · obtain ⟨t1, t2⟩ := s1 hs
      have hs' := (out_iff hc128 ho).mpr hs
      have ew : (nI o &&& (nI c ^^^ (-1))) = nI (o ^^^ c) := by rw [show (-1 : Int32) = nI 4294967295 from rfl, nI_xor, nI_and, t1]
      rw [if_pos hs', if_pos hs', c_R11_0, Option.bind_some, nI_xor, c_A12 I A tp s3, Option.bind_some, (hT _ s3).1]
      have key : ∀ B1, m6 B B1 → (f = -1 → c < o ∨ ¬ wid (o ^^^ c) < x) → ∃ b B', b < 128 ∧ (if nI (wid (o ^^^ c)) < nI x then sX6_fewestUnfolded_46 (sX6_fewestUnfolded_5 (k + m + 1)) 11 (nI o) (nI x) f (nI c) (cW I A tp) else sX6_fewestUnfolded_46 (sX6_fewestUnfolded_5 (k + m + 1)) 11 (nI o) (nI x) (nI c) (nI c) (cW I A tp)) = some (nI b, cW I A tp) ∧ sX10_open_72 (sX10_open_38 (k2 + m + 1 + (127 - o))) 0 (nI x) (nI o) f (nI c) (mW J B1) = some (nI b, mW J B') ∧ m6 B B' := by
        intro B1 h6 hn
        rw [sX10_open_72, ew, m_wide s3, ab_b2_some]
        by_cases h1 : wid (o ^^^ c) < x
        · rw [if_pos (nI_lt h1 (by omega)), if_pos (nI_lt h1 (by omega)), sX6_fewestUnfolded_46, sX10_open_90, nI_1]
          refine ih (c + 1) k k2 f _ (by omega) ?_ (h6.up _)
          rcases hf with ⟨e, -⟩ | hf
          · rcases hn e with h | h
            · exact Or.inl ⟨e, by omega⟩
            · exact absurd h1 h
          · exact Or.inr hf
        · rw [if_neg (show ¬ nI (wid (o ^^^ c)) < nI x from nI_nlt (by omega) (by omega)), if_neg (show ¬ nI (wid (o ^^^ c)) < nI x from nI_nlt (by omega) (by omega)), sX6_fewestUnfolded_46, sX10_open_90, nI_1]
          exact ih (c + 1) k k2 (nI c) _ (by omega) (Or.inr ⟨c, hc128, rfl⟩) (h6.up _)
      have hlast : c < o ∨ ¬ wid (o ^^^ c) < x := by
        rcases Nat.lt_or_ge c o with h | h
        · exact Or.inl h
        · have : c = o := by omega
          subst this
          refine Or.inr ?_
          rw [Nat.xor_self, show wid 0 = 8 from by decide]
          omega
      rcases hf with ⟨rfl, hco⟩ | ⟨b, hb, rfl⟩
      · rw [if_pos (show (-1 : Int32) < 0 by decide), c_fewN, ab_b2_some, if_neg (show ¬ (1 : Int32) = 0 by decide)]
        exact key B1 h6 (fun _ => hlast)
      · rw [if_neg (nI_pos (show b < 2 ^ 31 by omega)), m_bits (by omega), ab_b2_some, m_bits (by omega), ab_b2_some]
        have p1 := (popc_0 (a := b) (by omega)).1
        have p2 := (popc_0 (a := c) (by omega)).1
        by_cases hlt : popc c < popc b
        · rw [if_pos (nI_lt hlt (by omega)), c_fewT hc128 hb hlt, ab_b2_some, if_neg (show ¬ (1 : Int32) = 0 by decide)]
          exact key B1 h6 (fun _ => hlast)
        · rw [if_neg (nI_nlt (show popc b ≤ popc c by omega) (by omega)), c_fewF hc128 hb hlt, ab_b2_some, if_pos rfl, sX10_open_90, sX6_fewestUnfolded_46, nI_1, ite_self]
          exact ih (c + 1) k k2 (nI b) B1 (by omega) (Or.inr ⟨b, hb, rfl⟩) h6
    · rw [if_neg (fun e => hs ((out_iff hc128 ho).mp e)), if_neg (fun e => hs ((out_iff hc128 ho).mp e)), sX6_fewestUnfolded_46, sX10_open_90, nI_1]
      refine ih (c + 1) k k2 f B1 (by omega) ?_ h6
      rcases hf with ⟨e, hco⟩ | hf
      · refine Or.inl ⟨e, ?_⟩
        rcases Nat.lt_or_ge c o with h | h
        · omega
        · have : c = o := by omega
          subst this
          have z : ∀ c, c < 128 → c &&& (c ^^^ 4294967295) = 0 := by decide +kernel
          exact absurd (z c hc128) hs
      · exact Or.inr hf
theorem op_open (h : RR n I A J B) (kk v : Int32) : OK n (sX9_open 0 kk v (cW I A tp)) (sX10_open 0 kk v (mW J B)) := by
  obtain ⟨c, hc8, hcB, hcI⟩ := h.many
  by_cases hp : isP kk c
  · obtain ⟨j, hj, rfl⟩ := hp
    have hj8 : j < 8 := by omega
    by_cases hv : inR v 1 8
    · have hv2 := hv
      obtain ⟨x, x1, x8, rfl⟩ := hv
      obtain ⟨o, o7, oB, oI⟩ := h.pv (q := 3) hj8 (by decide)
      simp only [List.getD_cons_zero, List.getD_cons_succ] at o7
      obtain ⟨b, B', hb, e1, e2, e3⟩ := cm_open (I := I) (A := A) (tp := tp) (J := J) (B := B) (o := o) (x := x) h.2.2.2.1 (by omega) x8 (o + 1) 0 (998 - o) 871 (-1) B (by omega) (Or.inl ⟨rfl, by omega⟩) (m6.refl B)
      rw [show 998 - o + (o + 1) + 1 = 1000 by omega] at e1
      rw [show 871 + (o + 1) + 1 + (127 - o) = 1000 by omega] at e2
      refine ok_same (tp := tp) (nI b) h ?_ ?_ (cE.refl I A) e3.mE
      · rw [sX9_open, if_pos (c_is0 I A tp), c_R0_3, Option.bind_some, c_has_T hcI hj hc8, ab_b2_some, if_neg (by decide), cT_1_8 hv2, ab_b2_some, if_neg (by decide), c_R0_2, Option.bind_some, c_R0_3, Option.bind_some, c_R17_0, Option.bind_some, c_Q18 I A tp hj8, Option.bind_some, c_pI I A tp hj8 3 (by decide), Option.bind_some, oI, sX6_fewestUnfolded, if_pos (c_is11 I A tp), show sX6_fewestUnfolded_5 1000 11 (nI o) (nI x) (-1) 0 (cW I A tp) = _ from e1]
        rfl
      · rw [sX10_open, if_pos (m_is J B), m_isP_T hcB hj hc8, ab_b2_some, if_neg (by decide), mT_1_8 hv2, ab_b2_some, if_neg (by decide), m_i3 hj8, ab_b2_some, oB]
        exact e2
    · refine ok_err (tp := tp) (-1000000001) 1 (by decide) h ?_ ?_
      · rw [sX9_open, if_pos (c_is0 I A tp), c_R0_3, Option.bind_some, c_has_T hcI hj hc8, ab_b2_some, if_neg (by decide), cF_1_8 hv]
        rfl
      · rw [sX10_open, if_pos (m_is J B), m_isP_T hcB hj hc8, ab_b2_some, if_neg (by decide), mF_1_8 hv]
        rfl
  · refine ok_err (tp := tp) (-1000000001) 1 (by decide) h ?_ ?_
    · rw [sX9_open, if_pos (c_is0 I A tp), c_R0_3, Option.bind_some, c_has_F hcI hc8 hp]
      rfl
    · rw [sX10_open, if_pos (m_is J B), m_isP_F hcB hc8 hp]
      rfl
end OP
