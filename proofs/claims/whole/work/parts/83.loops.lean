section RD
variable {I J : Nat → Int32} {A B : Nat → Nat → Int32} {t : Nat → Int32} {e u o p z : Nat}
theorem lv_cases (s : Int32) : (s = 37 ∧ lv s = 4) ∨ (s = 38 ∧ lv s = 1) ∨ (s = 42 ∧ lv s = 4) ∨ (s = 43 ∧ lv s = 3) ∨ (s = 45 ∧ lv s = 3) ∨ (s = 47 ∧ lv s = 4) ∨ (s = 60 ∧ lv s = 2) ∨ (s = 61 ∧ lv s = 2) ∨ (s = 62 ∧ lv s = 2) ∨ (s = 124 ∧ lv s = 0) ∨ (lv s = 9 ∧ s ≠ 37 ∧ s ≠ 38 ∧ s ≠ 42 ∧ s ≠ 43 ∧ s ≠ 45 ∧ s ≠ 47 ∧ s ≠ 60 ∧ s ≠ 61 ∧ s ≠ 62 ∧ s ≠ 124) := by
  by_cases h1 : s = 37
  · exact Or.inl ⟨h1, by subst h1; decide⟩
  by_cases h2 : s = 38
  · exact Or.inr (Or.inl ⟨h2, by subst h2; decide⟩)
  by_cases h3 : s = 42
  · exact Or.inr (Or.inr (Or.inl ⟨h3, by subst h3; decide⟩))
  by_cases h4 : s = 43
  · exact Or.inr (Or.inr (Or.inr (Or.inl ⟨h4, by subst h4; decide⟩)))
  by_cases h5 : s = 45
  · exact Or.inr (Or.inr (Or.inr (Or.inr (Or.inl ⟨h5, by subst h5; decide⟩))))
  by_cases h6 : s = 47
  · exact Or.inr (Or.inr (Or.inr (Or.inr (Or.inr (Or.inl ⟨h6, by subst h6; decide⟩)))))
  by_cases h7 : s = 60
  · exact Or.inr (Or.inr (Or.inr (Or.inr (Or.inr (Or.inr (Or.inl ⟨h7, by subst h7; decide⟩))))))
  by_cases h8 : s = 61
  · exact Or.inr (Or.inr (Or.inr (Or.inr (Or.inr (Or.inr (Or.inr (Or.inl ⟨h8, by subst h8; decide⟩)))))))
  by_cases h9 : s = 62
  · exact Or.inr (Or.inr (Or.inr (Or.inr (Or.inr (Or.inr (Or.inr (Or.inr (Or.inl ⟨h9, by subst h9; decide⟩))))))))
  by_cases h10 : s = 124
  · exact Or.inr (Or.inr (Or.inr (Or.inr (Or.inr (Or.inr (Or.inr (Or.inr (Or.inr (Or.inl ⟨h10, by subst h10; decide⟩)))))))))
  exact Or.inr (Or.inr (Or.inr (Or.inr (Or.inr (Or.inr (Or.inr (Or.inr (Or.inr (Or.inr ⟨by rw [lv, if_neg h1, if_neg h2, if_neg h3, if_neg h4, if_neg h5, if_neg h6, if_neg h7, if_neg h8, if_neg h9, if_neg h10], h1, h2, h3, h4, h5, h6, h7, h8, h9, h10⟩)))))))))
theorem mlp_whole {M : Nat} (he : e ≤ 50) (hu : u < 2) : MLP t e u o 0 (fun f v w => sX10_whole_5 (sX10_both M) f 0 v w) (fun w => sX10_both M 0 w) := by
  refine ⟨fun f v J B h => ?_, fun f v J B p hp hS hl => ?_, fun f v J B p hp hS hl => ?_⟩
  · show sX10_whole_5 (sX10_both M) (f + 1) 0 v (mW J B) = _
    rw [sX10_whole_5, m_I14, Option.bind_some, h, if_pos rfl]
  · obtain ⟨h8, h9, h7, h10, h14, ht⟩ := hS
    show sX10_whole_5 (sX10_both M) (f + 1) 0 v (mW J B) = _
    rw [sX10_whole_5, m_I14, Option.bind_some, h14, if_neg (by decide), m_I8, Option.bind_some, h8, m_byte he hu hp h9 h7 ht, ab_b2_some, if_neg (fun e => hl (by rw [e]; decide))]
  · obtain ⟨h8, h9, h7, h10, h14, ht⟩ := hS
    have hs : bt t e p = 124 := by
      rcases lv_cases (bt t e p) with h | h | h | h | h | h | h | h | h | h | h
      all_goals first | (exact h.1) | (exfalso; have := h.2; omega) | (exfalso; have := h.1; omega)
    show sX10_whole_5 (sX10_both M) (f + 1) 0 v (mW J B) = ab_b2 (sX10_both M 0 (mW (upd J 8 (nI (p + 1))) B)) fun r w => sX10_whole_5 (sX10_both M) f 0 (jn (bt t e p) v r) w
    rw [sX10_whole_5, m_I14, Option.bind_some, h14, if_neg (by decide), m_I8, Option.bind_some, h8, m_byte he hu hp h9 h7 ht, ab_b2_some, if_pos hs, m_I8, Option.bind_some, h8, m_P8, Option.bind_some, nI_1]
    congr 1
    funext r w
    rw [hs, show jn 124 v r = if v = 0 then (if r = 0 then 0 else 1) else 1 from rfl]
    by_cases hv : v = 0
    · rw [if_pos hv, if_pos hv]
      by_cases hr : r = 0
      · rw [if_pos hr, if_pos hr]; rfl
      · rw [if_neg hr, if_neg hr]; rfl
    · rw [if_neg hv, if_neg hv]; rfl
theorem mlp_both {M : Nat} (he : e ≤ 50) (hu : u < 2) : MLP t e u o 1 (fun f v w => sX10_both_5 (sX10_compared M) f 0 v w) (fun w => sX10_compared M 0 w) := by
  refine ⟨fun f v J B h => ?_, fun f v J B p hp hS hl => ?_, fun f v J B p hp hS hl => ?_⟩
  · show sX10_both_5 (sX10_compared M) (f + 1) 0 v (mW J B) = _
    rw [sX10_both_5, m_I14, Option.bind_some, h, if_pos rfl]
  · obtain ⟨h8, h9, h7, h10, h14, ht⟩ := hS
    show sX10_both_5 (sX10_compared M) (f + 1) 0 v (mW J B) = _
    rw [sX10_both_5, m_I14, Option.bind_some, h14, if_neg (by decide), m_I8, Option.bind_some, h8, m_byte he hu hp h9 h7 ht, ab_b2_some, if_neg (fun e => hl (by rw [e]; decide))]
  · obtain ⟨h8, h9, h7, h10, h14, ht⟩ := hS
    have hs : bt t e p = 38 := by
      rcases lv_cases (bt t e p) with h | h | h | h | h | h | h | h | h | h | h
      all_goals first | (exact h.1) | (exfalso; have := h.2; omega) | (exfalso; have := h.1; omega)
    show sX10_both_5 (sX10_compared M) (f + 1) 0 v (mW J B) = ab_b2 (sX10_compared M 0 (mW (upd J 8 (nI (p + 1))) B)) fun r w => sX10_both_5 (sX10_compared M) f 0 (jn (bt t e p) v r) w
    rw [sX10_both_5, m_I14, Option.bind_some, h14, if_neg (by decide), m_I8, Option.bind_some, h8, m_byte he hu hp h9 h7 ht, ab_b2_some, if_pos hs, m_I8, Option.bind_some, h8, m_P8, Option.bind_some, nI_1]
    congr 1
    funext r w
    rw [hs, show jn 38 v r = if v = 0 then 0 else if r = 0 then 0 else 1 from rfl]
    by_cases hv : v = 0
    · rw [if_pos hv, if_pos hv]; rfl
    · rw [if_neg hv, if_neg hv]
      by_cases hr : r = 0
      · rw [if_pos hr, if_pos hr]; rfl
      · rw [if_neg hr, if_neg hr]; rfl
theorem mlp_sum {M : Nat} (he : e ≤ 50) (hu : u < 2) : MLP t e u o 3 (fun f v w => sX10_sum_5 (sX10_product M) f 0 v w) (fun w => sX10_product M 0 w) := by
  refine ⟨fun f v J B h => ?_, fun f v J B p hp hS hl => ?_, fun f v J B p hp hS hl => ?_⟩
  · show sX10_sum_5 (sX10_product M) (f + 1) 0 v (mW J B) = _
    rw [sX10_sum_5, m_I14, Option.bind_some, h, if_pos rfl]
  · obtain ⟨h8, h9, h7, h10, h14, ht⟩ := hS
    show sX10_sum_5 (sX10_product M) (f + 1) 0 v (mW J B) = _
    rw [sX10_sum_5, m_I14, Option.bind_some, h14, if_neg (by decide), m_I8, Option.bind_some, h8, m_byte he hu hp h9 h7 ht, ab_b2_some, if_neg (fun e => hl (by rw [e]; decide)), m_I8, Option.bind_some, h8, m_byte he hu hp h9 h7 ht, ab_b2_some, if_neg (fun e => hl (by rw [e]; decide))]
  · obtain ⟨h8, h9, h7, h10, h14, ht⟩ := hS
    have hs : bt t e p = 43 ∨ bt t e p = 45 := by
      rcases lv_cases (bt t e p) with h | h | h | h | h | h | h | h | h | h | h
      all_goals first | (exact Or.inl h.1) | (exact Or.inr h.1) | (exfalso; have := h.2; omega) | (exfalso; have := h.1; omega)
    show sX10_sum_5 (sX10_product M) (f + 1) 0 v (mW J B) = ab_b2 (sX10_product M 0 (mW (upd J 8 (nI (p + 1))) B)) fun r w => sX10_sum_5 (sX10_product M) f 0 (jn (bt t e p) v r) w
    have e38 : sX10_sum_38 (sX10_product M) (sX10_sum_5 (sX10_product M) f) 0 v (mW J B) = ab_b2 (sX10_product M 0 (mW (upd J 8 (nI (p + 1))) B)) fun r w => sX10_sum_5 (sX10_product M) f 0 (jn (bt t e p) v r) w := by
      rw [sX10_sum_38, m_I8, Option.bind_some, h8, m_byte he hu hp h9 h7 ht, ab_b2_some, m_I8, Option.bind_some, h8, m_P8, Option.bind_some, nI_1]
      congr 1
      funext r w
      rcases hs with hs | hs
      · rw [hs, if_pos rfl]; rfl
      · rw [hs, if_neg (by decide)]; rfl
    rw [sX10_sum_5, m_I14, Option.bind_some, h14, if_neg (by decide), m_I8, Option.bind_some, h8, m_byte he hu hp h9 h7 ht, ab_b2_some]
    rcases hs with hs | hs
    · rw [if_pos hs]; exact e38
    · rw [if_neg (by rw [hs]; decide), m_I8, Option.bind_some, h8, m_byte he hu hp h9 h7 ht, ab_b2_some, if_pos hs]; exact e38
theorem mlp_product {M : Nat} (he : e ≤ 50) (hu : u < 2) : MLP t e u o 4 (fun f v w => sX10_product_5 (sX10_factor M) f 0 v w) (fun w => sX10_factor M 0 w) := by
  refine ⟨fun f v J B h => ?_, fun f v J B p hp hS hl => ?_, fun f v J B p hp hS hl => ?_⟩
  · show sX10_product_5 (sX10_factor M) (f + 1) 0 v (mW J B) = _
    rw [sX10_product_5, m_I14, Option.bind_some, h, if_pos rfl]
  · obtain ⟨h8, h9, h7, h10, h14, ht⟩ := hS
    show sX10_product_5 (sX10_factor M) (f + 1) 0 v (mW J B) = _
    rw [sX10_product_5, m_I14, Option.bind_some, h14, if_neg (by decide), m_I8, Option.bind_some, h8, m_byte he hu hp h9 h7 ht, ab_b2_some, if_neg (fun e => hl (by rw [e]; decide)), m_I8, Option.bind_some, h8, m_byte he hu hp h9 h7 ht, ab_b2_some, if_neg (fun e => hl (by rw [e]; decide)), m_I8, Option.bind_some, h8, m_byte he hu hp h9 h7 ht, ab_b2_some, if_neg (fun e => hl (by rw [e]; decide))]
  · obtain ⟨h8, h9, h7, h10, h14, ht⟩ := hS
    have hs : bt t e p = 42 ∨ bt t e p = 47 ∨ bt t e p = 37 := by
      rcases lv_cases (bt t e p) with h | h | h | h | h | h | h | h | h | h | h
      all_goals first | (exact Or.inl h.1) | (exact Or.inr (Or.inl h.1)) | (exact Or.inr (Or.inr h.1)) | (exfalso; have := h.2; omega) | (exfalso; have := h.1; omega)
    show sX10_product_5 (sX10_factor M) (f + 1) 0 v (mW J B) = ab_b2 (sX10_factor M 0 (mW (upd J 8 (nI (p + 1))) B)) fun r w => sX10_product_5 (sX10_factor M) f 0 (jn (bt t e p) v r) w
    have e51 : sX10_product_51 (sX10_factor M) (sX10_product_5 (sX10_factor M) f) 0 v (mW J B) = ab_b2 (sX10_factor M 0 (mW (upd J 8 (nI (p + 1))) B)) fun r w => sX10_product_5 (sX10_factor M) f 0 (jn (bt t e p) v r) w := by
      rw [sX10_product_51, m_I8, Option.bind_some, h8, m_byte he hu hp h9 h7 ht, ab_b2_some, m_I8, Option.bind_some, h8, m_P8, Option.bind_some, nI_1]
      congr 1
      funext r w
      rcases hs with hs | hs | hs
      · rw [hs, if_pos rfl]; rfl
      · rw [hs, if_neg (by decide), show jn 47 v r = if r = 0 then 0 else v / r from rfl]
        by_cases hr : r = 0
        · rw [if_pos hr, if_pos hr]; rfl
        · rw [if_neg hr, if_neg hr, if_pos rfl, ab_div, if_neg hr]; rfl
      · rw [hs, if_neg (by decide), show jn 37 v r = if r = 0 then 0 else v - v / r * r from rfl]
        by_cases hr : r = 0
        · rw [if_pos hr, if_pos hr]; rfl
        · rw [if_neg hr, if_neg hr, if_neg (by decide), ab_rem, if_neg hr]; rfl
    rw [sX10_product_5, m_I14, Option.bind_some, h14, if_neg (by decide), m_I8, Option.bind_some, h8, m_byte he hu hp h9 h7 ht, ab_b2_some]
    rcases hs with hs | hs | hs
    · rw [if_pos hs]; exact e51
    · rw [if_neg (by rw [hs]; decide), m_I8, Option.bind_some, h8, m_byte he hu hp h9 h7 ht, ab_b2_some, if_pos hs]; exact e51
    · rw [if_neg (by rw [hs]; decide), m_I8, Option.bind_some, h8, m_byte he hu hp h9 h7 ht, ab_b2_some, if_neg (by rw [hs]; decide), m_I8, Option.bind_some, h8, m_byte he hu hp h9 h7 ht, ab_b2_some, if_pos hs]; exact e51
end RD
