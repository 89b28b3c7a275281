section RD
variable {t : Nat → Int32} {e u o p : Nat}
theorem nt_l5 {S : Nat} {G : ab_W → Option (Int32 × ab_W)} (h : NT (fun w => sX4_readSingle S 58 (nI o) w) G t e u o p) : NT (fun w => sX4_readLevel (S + 1) 58 (nI 5) (nI o) w) G t e u o p := by
  obtain ⟨ok, p', code, ℓ, val, b1, b2, hC, hM, hR⟩ := h
  refine ⟨ok, p', code, ℓ, val, b1, b2, fun I A z hS => ?_, hM, hR⟩
  obtain ⟨I', A', z', f0, f1⟩ := hC I A z hS
  refine ⟨I', A', z', ?_, f1⟩
  show sX4_readLevel (S + 1) 58 (nI 5) (nI o) (cW I A 19) = _
  rw [sX4_readLevel_s, bX4_readLevel, if_pos (c_is58 I A 19), if_neg (by decide), show sX4_readSingle S 58 (nI o) (cW I A 19) = _ from f0, ab_b2_some, bool_b]
theorem nt_up {S M : Nat} (he : e ≤ 50) (hu : u < 2) (H : ∀ p, p ≤ e → NT (fun w => sX4_readSingle S 58 (nI o) w) (fun w => sX10_factor M 0 w) t e u o p) : ∀ p, p ≤ e → NT (fun w => sX4_readLevel (S + 6) 58 0 (nI o) w) (fun w => sX10_whole (M + 5) 0 w) t e u o p := by
  have h5 : ∀ p, p ≤ e → NT (fun w => sX4_readLevel (S + 1) 58 (nI 5) (nI o) w) (fun w => sX10_factor M 0 w) t e u o p := fun p hp => nt_l5 (H p hp)
  have h4 : ∀ p, p ≤ e → NT (fun w => sX4_readLevel (S + 2) 58 (nI 4) (nI o) w) (fun w => sX10_product (M + 1) 0 w) t e u o p := fun p hp => nt_level (L := 4) he hu (by decide) (by decide) (mlp_product he hu) (fun J B => by
    show sX10_product (M + 1) 0 (mW J B) = _
    rw [sX10_product_s, bX10_product, if_pos (m_is J B)]) h5 hp
  have h3 : ∀ p, p ≤ e → NT (fun w => sX4_readLevel (S + 3) 58 (nI 3) (nI o) w) (fun w => sX10_sum (M + 2) 0 w) t e u o p := fun p hp => nt_level (L := 3) he hu (by decide) (by decide) (mlp_sum he hu) (fun J B => by
    show sX10_sum (M + 2) 0 (mW J B) = _
    rw [sX10_sum_s, bX10_sum, if_pos (m_is J B)]) h4 hp
  have h2 : ∀ p, p ≤ e → NT (fun w => sX4_readLevel (S + 4) 58 (nI 2) (nI o) w) (fun w => sX10_compared (M + 3) 0 w) t e u o p := fun p hp => nt_compare he hu h3 hp
  have h1 : ∀ p, p ≤ e → NT (fun w => sX4_readLevel (S + 5) 58 (nI 1) (nI o) w) (fun w => sX10_both (M + 4) 0 w) t e u o p := fun p hp => nt_level (L := 1) he hu (by decide) (by decide) (mlp_both he hu) (fun J B => by
    show sX10_both (M + 4) 0 (mW J B) = _
    rw [sX10_both_s, bX10_both, if_pos (m_is J B)]) h2 hp
  exact fun p hp => nt_level (L := 0) he hu (by decide) (by decide) (mlp_whole he hu) (fun J B => by
    show sX10_whole (M + 5) 0 (mW J B) = _
    rw [sX10_whole_s, bX10_whole, if_pos (m_is J B)]) h1 hp
theorem nt_single (he : e ≤ 50) (hu : u < 2) : ∀ k, k ≤ 5 → ∀ S M, 8 * k + 1 ≤ S → 6 * k + 1 ≤ M → ∀ p, p ≤ e → NT (fun w => sX4_readSingle S 58 (nI (5 - k)) w) (fun w => sX10_factor M 0 w) t e u (5 - k) p := by
  intro k
  induction k with
  | zero =>
    intro _ S M hS hM p hp
    obtain ⟨S', rfl⟩ : ∃ S', S = S' + 1 := ⟨S - 1, by omega⟩
    obtain ⟨M', rfl⟩ : ∃ M', M = M' + 1 := ⟨M - 1, by omega⟩
    by_cases hd : inR (bt t e p) 48 57
    · exact nt_num he hu hp hd
    · by_cases h33 : bt t e p = 33
      · exact nt_full he hu hp (Or.inl h33)
      · by_cases h40 : bt t e p = 40
        · exact nt_full he hu hp (Or.inr h40)
        · exact nt_name he hu hp hd h33 h40
  | succ k ih =>
    intro hk S M hS hM p hp
    obtain ⟨S', rfl⟩ : ∃ S', S = S' + 2 := ⟨S - 2, by omega⟩
    obtain ⟨M', rfl⟩ : ∃ M', M = M' + 1 := ⟨M - 1, by omega⟩
    have eo : 5 - (k + 1) + 1 = 5 - k := by omega
    by_cases hd : inR (bt t e p) 48 57
    · exact nt_num (S := S' + 1) he hu hp hd
    · by_cases h33 : bt t e p = 33
      · refine nt_not he hu (by omega) hp h33 ?_
        rw [eo]
        exact ih (by omega) S' M' (by omega) (by omega)
      · by_cases h40 : bt t e p = 40
        · refine nt_paren he hu (by omega) hp h40 ?_
          rw [eo]
          obtain ⟨S2, rfl⟩ : ∃ S2, S' = S2 + 6 := ⟨S' - 6, by omega⟩
          obtain ⟨M2, rfl⟩ : ∃ M2, M' = M2 + 5 := ⟨M' - 5, by omega⟩
          exact nt_up he hu (ih (by omega) S2 M2 (by omega) (by omega))
        · exact nt_name (S := S' + 1) he hu hp hd h33 h40
theorem nt_top (he : e ≤ 50) (hu : u < 2) : NT (fun w => sX4_readLevel 100 58 0 0 w) (fun w => sX10_whole 100 0 w) t e u 0 0 :=
  nt_up (S := 94) (M := 95) he hu (nt_single he hu 5 (by decide) 94 95 (by decide) (by decide)) 0 (by omega)
end RD
