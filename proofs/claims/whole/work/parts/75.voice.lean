/-! ===== voices ===== -/
theorem ab_b2_eta (x : Option (Int32 × ab_W)) : (ab_b2 x fun v w => some (v, w)) = x := by
  cases x with
  | none => rfl
  | some p => rfl
def tbd (fr act : Nat) : Nat := ([[10, 11, 12, 13], [20, 11, 12, 13], [10, 30, 12, 13], [10, 11, 40, 13], [20, 11, 12, 50], [10, 60, 12, 13], [10, 11, 70, 71]].getD fr []).getD act 0
theorem bd {fr act : Nat} (hf : fr < 7) (ha : act < 4) (w : ab_W) : sX8_bodyOf (nI fr) (nI act) w = some (nI (tbd fr act), w) := by
  rcases (show fr = 0 ∨ fr = 1 ∨ fr = 2 ∨ fr = 3 ∨ fr = 4 ∨ fr = 5 ∨ fr = 6 by omega) with rfl | rfl | rfl | rfl | rfl | rfl | rfl <;> rcases (show act = 0 ∨ act = 1 ∨ act = 2 ∨ act = 3 by omega) with rfl | rfl | rfl | rfl <;> rfl
theorem say_same {F fr fr' act : Nat} (hf : fr < 7) (hf' : fr' < 7) (ha : act < 4) (h : tbd fr act = tbd fr' act) (x d : Int32) (w : ab_W) : sX8_say (F + 1) 63 (nI fr) (nI act) x d w = sX8_say (F + 1) 63 (nI fr') (nI act) x d w := by
  rw [sX8_say_s]
  unfold bX8_say
  rw [bd hf ha, bd hf' ha, h]
section VO
variable {I0 J0 : Nat → Int32} {A0 B0 : Nat → Nat → Int32} {tp : Nat}
def VS (I0 : Nat → Int32) (A0 : Nat → Nat → Int32) (J0 : Nat → Int32) (B0 : Nat → Nat → Int32) (I : Nat → Int32) (A : Nat → Nat → Int32) (J : Nat → Int32) (B : Nat → Nat → Int32) : Prop :=
  (∀ i, i ≠ 424 → I i = I0 i) ∧ (∀ k, k ≠ 64 → A k = A0 k) ∧ (∀ i, i ≠ 22 → J i = J0 i) ∧ (∀ k, k ≠ 12 → B k = B0 k) ∧ I 424 = J 22 ∧ inN (J 22) 40 ∧ ∀ q, q < 40 → A 64 q = B 12 q
def VV (I0 : Nat → Int32) (A0 : Nat → Nat → Int32) (J0 : Nat → Int32) (B0 : Nat → Nat → Int32) (tp : Nat) (F G : ab_W → Option (Int32 × ab_W)) : Prop :=
  ∀ I A J B, VS I0 A0 J0 B0 I A J B → ∃ v I' A' J' B', F (cW I A tp) = some (v, cW I' A' tp) ∧ G (mW J B) = some (v, mW J' B') ∧ VS I0 A0 J0 B0 I' A' J' B'
theorem VV.congr {F F' G G' : ab_W → Option (Int32 × ab_W)} (h : VV I0 A0 J0 B0 tp F' G') (hF : ∀ I A, F (cW I A tp) = F' (cW I A tp)) (hG : ∀ J B, G (mW J B) = G' (mW J B)) : VV I0 A0 J0 B0 tp F G := fun I A J B hV => by
  rw [hF, hG]
  exact h I A J B hV
theorem VV.ret (v : Int32) : VV I0 A0 J0 B0 tp (fun w => some (v, w)) (fun w => some (v, w)) := fun I A J B hV => ⟨v, I, A, J, B, rfl, rfl, hV⟩
theorem VV.bind {F G : ab_W → Option (Int32 × ab_W)} {F' G' : Int32 → ab_W → Option (Int32 × ab_W)} (h : VV I0 A0 J0 B0 tp F G) (h' : ∀ v, VV I0 A0 J0 B0 tp (F' v) (G' v)) : VV I0 A0 J0 B0 tp (fun w => ab_b2 (F w) (fun v w => F' v w)) (fun w => ab_b2 (G w) (fun v w => G' v w)) := fun I A J B hV => by
  obtain ⟨v, I1, A1, J1, B1, e1, e2, h1⟩ := h I A J B hV
  obtain ⟨v2, I2, A2, J2, B2, f1, f2, h2⟩ := h' v I1 A1 J1 B1 h1
  exact ⟨v2, I2, A2, J2, B2, by simp only [e1, ab_b2_some]; exact f1, by simp only [e2, ab_b2_some]; exact f2, h2⟩
theorem VV.getK {F G : Int32 → ab_W → Option (Int32 × ab_W)} (h0 : J0 23 = I0 425) (h : VV I0 A0 J0 B0 tp (F (I0 425)) (G (I0 425))) : VV I0 A0 J0 B0 tp (fun w => (ab_getI w 8 63 2).bind fun v => F v w) (fun w => (ab_getI w 10 0 23).bind fun v => G v w) := fun I A J B hV => by
  obtain ⟨v, I1, A1, J1, B1, e1, e2, h1⟩ := h I A J B hV
  exact ⟨v, I1, A1, J1, B1, by simp only [c_I63_2, Option.bind_some, hV.1 425 (by decide)]; exact e1, by simp only [m_I23, Option.bind_some, hV.2.2.1 23 (by decide), h0]; exact e2, h1⟩
theorem VV.getN {F G : Int32 → ab_W → Option (Int32 × ab_W)} (h0 : J0 24 = I0 427) (h : VV I0 A0 J0 B0 tp (F (I0 427)) (G (I0 427))) : VV I0 A0 J0 B0 tp (fun w => (ab_getI w 8 63 4).bind fun v => F v w) (fun w => (ab_getI w 10 0 24).bind fun v => G v w) := fun I A J B hV => by
  obtain ⟨v, I1, A1, J1, B1, e1, e2, h1⟩ := h I A J B hV
  exact ⟨v, I1, A1, J1, B1, by simp only [c_I63_4, Option.bind_some, hV.1 427 (by decide)]; exact e1, by simp only [m_I24, Option.bind_some, hV.2.2.1 24 (by decide), h0]; exact e2, h1⟩
theorem VV.getM {F G : Int32 → ab_W → Option (Int32 × ab_W)} (h0 : J0 25 = I0 426) (h : VV I0 A0 J0 B0 tp (F (I0 426)) (G (I0 426))) : VV I0 A0 J0 B0 tp (fun w => (ab_getI w 8 63 3).bind fun v => F v w) (fun w => (ab_getI w 10 0 25).bind fun v => G v w) := fun I A J B hV => by
  obtain ⟨v, I1, A1, J1, B1, e1, e2, h1⟩ := h I A J B hV
  exact ⟨v, I1, A1, J1, B1, by simp only [c_I63_3, Option.bind_some, hV.1 426 (by decide)]; exact e1, by simp only [m_I25, Option.bind_some, hV.2.2.1 25 (by decide), h0]; exact e2, h1⟩
theorem VV.say {F fr act d : Nat} {x : Int32} {G : ab_W → Option (Int32 × ab_W)} (hf : fr < 7) (ha : act < 4) (hd : d < 40) (h : VV I0 A0 J0 B0 tp (fun w => sX8_perform F 63 (nI (tbd fr act)) x (nI (d + 1)) w) G) : VV I0 A0 J0 B0 tp (fun w => sX8_say (F + 1) 63 (nI fr) (nI act) x (nI d) w) (fun w => (sX10_ran 0 (nI (tbd fr act)) w).bind fun w => G w) := fun I A J B hV => by
  obtain ⟨v1, v2, v3, v4, v5, ⟨b, hb, eb⟩, v7⟩ := hV
  by_cases hb40 : b < 40
  · have hV' : VS I0 A0 J0 B0 (upd I 424 (nI (b + 1))) (up2 A 64 b (nI (tbd fr act))) (upd J 22 (nI (b + 1))) (up2 B 12 b (nI (tbd fr act))) := by
      refine ⟨fun i hi => by rw [upd_ne hi]; exact v1 i hi, fun k hk => by rw [up2_ne hk]; exact v2 k hk, fun i hi => by rw [upd_ne hi]; exact v3 i hi, fun k hk => by rw [up2_ne hk]; exact v4 k hk, by rw [upd_same, upd_same], by rw [upd_same]; exact inN_nI (by omega), fun q hq => ?_⟩
      rw [up2_at, up2_at]
      by_cases e : q = b
      · subst e; rw [upd_same, upd_same]
      · rw [upd_ne e, upd_ne e]; exact v7 q hq
    obtain ⟨v, I1, A1, J1, B1, e1, e2, h1⟩ := h _ _ _ _ hV'
    refine ⟨v, I1, A1, J1, B1, ?_, ?_, h1⟩
    · show sX8_say (F + 1) 63 (nI fr) (nI act) x (nI d) (cW I A tp) = _
      rw [sX8_say_s, bX8_say, if_pos (c_is63 I A tp), if_pos (show nI d < 40 from nI_lt (b := 40) hd (by decide)), bd hf ha, ab_b2_some, c_I63_1, Option.bind_some, v5, eb, if_pos (show nI b < 40 from nI_lt (b := 40) hb40 (by decide)), c_R63_0, Option.bind_some, Option.bind_some, c_S64 I A tp _ hb40, Option.bind_some, c_I63_1, Option.bind_some, v5, eb, c_P63_1, Option.bind_some, sX8_say_46, ab_b2_eta, nI_1, nI_1]
      exact e1
    · show (sX10_ran 0 (nI (tbd fr act)) (mW J B)).bind _ = _
      rw [sX10_ran, if_pos (m_is J B), m_I22, Option.bind_some, eb, if_pos (show nI b < 40 from nI_lt (b := 40) hb40 (by decide)), m_R21, Option.bind_some, Option.bind_some, m_S12 J B _ hb40, Option.bind_some, m_I22, Option.bind_some, eb, m_P22, Option.bind_some, Option.bind_some, nI_1]
      exact e2
  · obtain ⟨v, I1, A1, J1, B1, e1, e2, h1⟩ := h I A J B ⟨v1, v2, v3, v4, v5, ⟨b, hb, eb⟩, v7⟩
    refine ⟨v, I1, A1, J1, B1, ?_, ?_, h1⟩
    · show sX8_say (F + 1) 63 (nI fr) (nI act) x (nI d) (cW I A tp) = _
      rw [sX8_say_s, bX8_say, if_pos (c_is63 I A tp), if_pos (show nI d < 40 from nI_lt (b := 40) hd (by decide)), bd hf ha, ab_b2_some, c_I63_1, Option.bind_some, v5, eb, if_neg (show ¬ nI b < 40 from nI_nlt (b := 40) (by omega) (by omega)), sX8_say_46, ab_b2_eta, nI_1]
      exact e1
    · show (sX10_ran 0 (nI (tbd fr act)) (mW J B)).bind _ = _
      rw [sX10_ran, if_pos (m_is J B), m_I22, Option.bind_some, eb, if_neg (show ¬ nI b < 40 from nI_nlt (b := 40) (by omega) (by omega)), Option.bind_some]
      exact e2
/-! creases -/
theorem v_cr0 {F M d : Nat} {x : Int32} (hN : J0 24 = I0 427) (hd : d ≤ 35) : VV I0 A0 J0 B0 tp (fun w => sX8_say (F + 2) 63 0 0 x (nI d) w) (fun w => sX10_creasesIn (M + 1) 0 0 x w) :=
  (VV.say (fr := 0) (act := 0) (by decide) (by decide) (by omega) ((VV.getN (F := fun v w => some (x + v, w)) (G := fun v w => some (x + v, w)) hN (VV.ret _)).congr (F := fun w => sX8_perform (F + 1) 63 (nI (tbd 0 0)) x (nI (d + 1)) w) (fun I A => by rw [sX8_perform_s, bX8_perform, if_pos (c_is63 I A tp), if_pos (by decide)]) (fun J B => rfl))).congr (fun I A => rfl) (fun J B => by rw [sX10_creasesIn_s, bX10_creasesIn, if_pos (m_is J B), if_pos (by decide)]; rfl)
theorem v_cr1 {F M d : Nat} {x : Int32} (hN : J0 24 = I0 427) (hd : d ≤ 34) : VV I0 A0 J0 B0 tp (fun w => sX8_say (F + 4) 63 1 0 x (nI d) w) (fun w => sX10_creasesIn (M + 2) 0 1 x w) :=
  (VV.say (fr := 1) (act := 0) (by decide) (by decide) (by omega) (((v_cr0 (F := F) (M := M) (d := d + 1) (x := x) hN (by omega)).bind (fun v => VV.ret (v * 3))).congr (F := fun w => sX8_perform (F + 3) 63 (nI (tbd 1 0)) x (nI (d + 1)) w) (fun I A => by rw [sX8_perform_s, bX8_perform, if_pos (c_is63 I A tp), if_neg (by decide), if_neg (by decide), if_neg (by decide), if_neg (by decide), if_pos (by decide)]) (fun J B => rfl))).congr (fun I A => rfl) (fun J B => by rw [sX10_creasesIn_s, bX10_creasesIn, if_pos (m_is J B), if_neg (by decide), if_pos (by decide)]; rfl)
theorem m_crU {M k k' : Nat} {x : Int32} (hk : (k = 2 ∧ k' = 0) ∨ (k = 3 ∧ k' = 0) ∨ (k = 4 ∧ k' = 1) ∨ (k = 5 ∧ k' = 2) ∨ (k = 6 ∧ k' = 3)) (J : Nat → Int32) (B : Nat → Nat → Int32) : sX10_creasesIn (M + 1) 0 (nI k) x (mW J B) = sX10_creasesIn M 0 (nI k') x (mW J B) := by
  rw [sX10_creasesIn_s, bX10_creasesIn, if_pos (m_is J B)]
  rcases hk with ⟨rfl, rfl⟩ | ⟨rfl, rfl⟩ | ⟨rfl, rfl⟩ | ⟨rfl, rfl⟩ | ⟨rfl, rfl⟩ <;> (rw [if_neg (by decide), if_neg (by decide)]; simp only [ab_b2_eta]; rfl)
theorem v_cr {F M d k : Nat} {x : Int32} (hN : J0 24 = I0 427) (hd : d ≤ 34) (hk : k ≤ 6) : VV I0 A0 J0 B0 tp (fun w => sX8_say (F + 4) 63 (nI k) 0 x (nI d) w) (fun w => sX10_creasesIn (M + 3) 0 (nI k) x w) := by
  have c0 : VV I0 A0 J0 B0 tp (fun w => sX8_say (F + 4) 63 (nI 0) (nI 0) x (nI d) w) (fun w => sX10_creasesIn (M + 3) 0 (nI 0) x w) := v_cr0 (F := F + 2) (M := M + 2) hN (by omega)
  have c0b : VV I0 A0 J0 B0 tp (fun w => sX8_say (F + 4) 63 (nI 0) (nI 0) x (nI d) w) (fun w => sX10_creasesIn (M + 2) 0 (nI 0) x w) := v_cr0 (F := F + 2) (M := M + 1) hN (by omega)
  have c0c : VV I0 A0 J0 B0 tp (fun w => sX8_say (F + 4) 63 (nI 0) (nI 0) x (nI d) w) (fun w => sX10_creasesIn (M + 1) 0 (nI 0) x w) := v_cr0 (F := F + 2) (M := M) hN (by omega)
  have c1 : VV I0 A0 J0 B0 tp (fun w => sX8_say (F + 4) 63 (nI 1) (nI 0) x (nI d) w) (fun w => sX10_creasesIn (M + 3) 0 (nI 1) x w) := v_cr1 (F := F) (M := M + 1) hN (by omega)
  have c1b : VV I0 A0 J0 B0 tp (fun w => sX8_say (F + 4) 63 (nI 1) (nI 0) x (nI d) w) (fun w => sX10_creasesIn (M + 2) 0 (nI 1) x w) := v_cr1 (F := F) (M := M) hN (by omega)
  rcases (show k = 0 ∨ k = 1 ∨ k = 2 ∨ k = 3 ∨ k = 4 ∨ k = 5 ∨ k = 6 by omega) with rfl | rfl | rfl | rfl | rfl | rfl | rfl
  · exact c0
  · exact c1
  · exact c0b.congr (fun I A => say_same (act := 0) (by decide) (by decide) (by decide) (by decide) _ _ _) (fun J B => m_crU (by omega) J B)
  · exact c0b.congr (fun I A => say_same (act := 0) (by decide) (by decide) (by decide) (by decide) _ _ _) (fun J B => m_crU (by omega) J B)
  · exact c1b.congr (fun I A => say_same (act := 0) (by decide) (by decide) (by decide) (by decide) _ _ _) (fun J B => m_crU (by omega) J B)
  · exact c0c.congr (fun I A => say_same (act := 0) (by decide) (by decide) (by decide) (by decide) _ _ _) (fun J B => (m_crU (M := M + 2) (k' := 2) (by omega) J B).trans (m_crU (by omega) J B))
  · exact c0c.congr (fun I A => say_same (act := 0) (by decide) (by decide) (by decide) (by decide) _ _ _) (fun J B => (m_crU (M := M + 2) (k' := 3) (by omega) J B).trans (m_crU (by omega) J B))
/-! rests -/
theorem v_rs0 {F M d : Nat} {x : Int32} (hM : J0 25 = I0 426) (hd : d ≤ 35) : VV I0 A0 J0 B0 tp (fun w => sX8_say (F + 2) 63 0 2 x (nI d) w) (fun w => sX10_restsIn (M + 1) 0 0 x w) :=
  (VV.say (fr := 0) (act := 2) (by decide) (by decide) (by omega) ((VV.getM (F := fun v w => some (x - v, w)) (G := fun v w => some (x - v, w)) hM (VV.ret _)).congr (F := fun w => sX8_perform (F + 1) 63 (nI (tbd 0 2)) x (nI (d + 1)) w) (fun I A => by rw [sX8_perform_s, bX8_perform, if_pos (c_is63 I A tp), if_neg (by decide), if_neg (by decide), if_pos (by decide)]) (fun J B => rfl))).congr (fun I A => rfl) (fun J B => by rw [sX10_restsIn_s, bX10_restsIn, if_pos (m_is J B), if_pos (by decide)]; rfl)
theorem v_rs3 {F M d : Nat} {x : Int32} (hM : J0 25 = I0 426) (hd : d ≤ 34) : VV I0 A0 J0 B0 tp (fun w => sX8_say (F + 4) 63 3 2 x (nI d) w) (fun w => sX10_restsIn (M + 2) 0 3 x w) :=
  (VV.say (fr := 3) (act := 2) (by decide) (by decide) (by omega) (((v_rs0 (F := F) (M := M) (d := d + 1) (x := x) hM (by omega)).bind (fun v => VV.ret (-v))).congr (F := fun w => sX8_perform (F + 3) 63 (nI (tbd 3 2)) x (nI (d + 1)) w) (fun I A => by rw [sX8_perform_s, bX8_perform, if_pos (c_is63 I A tp), if_neg (by decide), if_neg (by decide), if_neg (by decide), if_neg (by decide), if_neg (by decide), if_neg (by decide), if_pos (by decide)]) (fun J B => rfl))).congr (fun I A => rfl) (fun J B => by rw [sX10_restsIn_s, bX10_restsIn, if_pos (m_is J B), if_neg (by decide), if_pos (by decide)]; rfl)
theorem v_rs6 {F M d : Nat} {x : Int32} (hM : J0 25 = I0 426) (hN : J0 24 = I0 427) (hd : d ≤ 33) : VV I0 A0 J0 B0 tp (fun w => sX8_say (F + 6) 63 6 2 x (nI d) w) (fun w => sX10_restsIn (M + 3) 0 6 x w) :=
  (VV.say (fr := 6) (act := 2) (by decide) (by decide) (by omega) (((v_rs3 (F := F) (M := M) (d := d + 1) (x := x) hM (by omega)).bind (fun v => VV.getN (F := fun u w => some (v ^^^ u, w)) (G := fun u w => some (v ^^^ u, w)) hN (VV.ret _))).congr (F := fun w => sX8_perform (F + 5) 63 (nI (tbd 6 2)) x (nI (d + 1)) w) (fun I A => by rw [sX8_perform_s, bX8_perform, if_pos (c_is63 I A tp), if_neg (by decide), if_neg (by decide), if_neg (by decide), if_neg (by decide), if_neg (by decide), if_neg (by decide), if_neg (by decide), if_neg (by decide), if_neg (by decide), if_pos (by decide)]) (fun J B => rfl))).congr (fun I A => rfl) (fun J B => by rw [sX10_restsIn_s, bX10_restsIn, if_pos (m_is J B), if_neg (by decide), if_neg (by decide), if_pos (by decide)]; rfl)
theorem m_rsU {M k k' : Nat} {x : Int32} (hk : (k = 1 ∧ k' = 0) ∨ (k = 2 ∧ k' = 0) ∨ (k = 4 ∧ k' = 1) ∨ (k = 5 ∧ k' = 2)) (J : Nat → Int32) (B : Nat → Nat → Int32) : sX10_restsIn (M + 1) 0 (nI k) x (mW J B) = sX10_restsIn M 0 (nI k') x (mW J B) := by
  rw [sX10_restsIn_s, bX10_restsIn, if_pos (m_is J B)]
  rcases hk with ⟨rfl, rfl⟩ | ⟨rfl, rfl⟩ | ⟨rfl, rfl⟩ | ⟨rfl, rfl⟩ <;> (rw [if_neg (by decide), if_neg (by decide), if_neg (by decide)]; simp only [ab_b2_eta]; rfl)
theorem v_rs {F M d k : Nat} {x : Int32} (hM : J0 25 = I0 426) (hN : J0 24 = I0 427) (hd : d ≤ 33) (hk : k ≤ 6) : VV I0 A0 J0 B0 tp (fun w => sX8_say (F + 6) 63 (nI k) 2 x (nI d) w) (fun w => sX10_restsIn (M + 3) 0 (nI k) x w) := by
  have c0 : VV I0 A0 J0 B0 tp (fun w => sX8_say (F + 6) 63 (nI 0) (nI 2) x (nI d) w) (fun w => sX10_restsIn (M + 3) 0 (nI 0) x w) := v_rs0 (F := F + 4) (M := M + 2) hM (by omega)
  have c0b : VV I0 A0 J0 B0 tp (fun w => sX8_say (F + 6) 63 (nI 0) (nI 2) x (nI d) w) (fun w => sX10_restsIn (M + 2) 0 (nI 0) x w) := v_rs0 (F := F + 4) (M := M + 1) hM (by omega)
  have c0c : VV I0 A0 J0 B0 tp (fun w => sX8_say (F + 6) 63 (nI 0) (nI 2) x (nI d) w) (fun w => sX10_restsIn (M + 1) 0 (nI 0) x w) := v_rs0 (F := F + 4) (M := M) hM (by omega)
  have c3 : VV I0 A0 J0 B0 tp (fun w => sX8_say (F + 6) 63 (nI 3) (nI 2) x (nI d) w) (fun w => sX10_restsIn (M + 3) 0 (nI 3) x w) := v_rs3 (F := F + 2) (M := M + 1) hM (by omega)
  have c6 : VV I0 A0 J0 B0 tp (fun w => sX8_say (F + 6) 63 (nI 6) (nI 2) x (nI d) w) (fun w => sX10_restsIn (M + 3) 0 (nI 6) x w) := v_rs6 (F := F) (M := M) hM hN (by omega)
  rcases (show k = 0 ∨ k = 1 ∨ k = 2 ∨ k = 3 ∨ k = 4 ∨ k = 5 ∨ k = 6 by omega) with rfl | rfl | rfl | rfl | rfl | rfl | rfl
  · exact c0
  · exact c0b.congr (fun I A => say_same (act := 2) (by decide) (by decide) (by decide) (by decide) _ _ _) (fun J B => m_rsU (by omega) J B)
  · exact c0b.congr (fun I A => say_same (act := 2) (by decide) (by decide) (by decide) (by decide) _ _ _) (fun J B => m_rsU (by omega) J B)
  · exact c3
  · exact c0c.congr (fun I A => say_same (act := 2) (by decide) (by decide) (by decide) (by decide) _ _ _) (fun J B => (m_rsU (M := M + 2) (k' := 1) (by omega) J B).trans (m_rsU (by omega) J B))
  · exact c0c.congr (fun I A => say_same (act := 2) (by decide) (by decide) (by decide) (by decide) _ _ _) (fun J B => (m_rsU (M := M + 2) (k' := 2) (by omega) J B).trans (m_rsU (by omega) J B))
  · exact c6
/-! flies -/
theorem v_fl0 {F M d kd : Nat} {x : Int32} (hN : J0 24 = I0 427) (hK : J0 23 = I0 425) (eK : I0 425 = nI kd) (k6 : kd ≤ 6) (hd : d ≤ 33) : VV I0 A0 J0 B0 tp (fun w => sX8_say (F + 6) 63 0 1 x (nI d) w) (fun w => sX10_fliesIn (M + 1) 0 0 x w) :=
  (VV.say (fr := 0) (act := 1) (by decide) (by decide) (by omega) ((VV.getK (F := fun v w => ab_b2 (sX8_say (F + 4) 63 v 0 x (nI (d + 1)) w) fun v3 w4 => some (v3 * 2, w4)) (G := fun v w => ab_b2 (sX10_creasesIn 100 0 v x w) fun v3 w4 => some (v3 * 2, w4)) hK (by
    rw [eK]
    exact (v_cr (F := F) (M := 97) (d := d + 1) (x := x) hN (by omega) k6).bind (fun v => VV.ret (v * 2)))).congr (F := fun w => sX8_perform (F + 5) 63 (nI (tbd 0 1)) x (nI (d + 1)) w) (fun I A => by rw [sX8_perform_s, bX8_perform, if_pos (c_is63 I A tp), if_neg (by decide), if_pos (by decide)]) (fun J B => rfl))).congr (fun I A => rfl) (fun J B => by rw [sX10_fliesIn_s, bX10_fliesIn, if_pos (m_is J B), if_pos (by decide)]; rfl)
theorem v_fl2 {F M d kd : Nat} {x : Int32} (hM : J0 25 = I0 426) (hN : J0 24 = I0 427) (hK : J0 23 = I0 425) (eK : I0 425 = nI kd) (k6 : kd ≤ 6) (hd : d ≤ 32) : VV I0 A0 J0 B0 tp (fun w => sX8_say (F + 8) 63 2 1 x (nI d) w) (fun w => sX10_fliesIn (M + 2) 0 2 x w) :=
  (VV.say (fr := 2) (act := 1) (by decide) (by decide) (by omega) (((v_fl0 (F := F) (M := M) (d := d + 1) (x := x) hN hK eK k6 (by omega)).bind (fun v => VV.getK (F := fun u w => ab_b2 (sX8_say (F + 6) 63 u 2 1 (nI (d + 1)) w) fun v17 w18 => some (v - v17, w18)) (G := fun u w => ab_b2 (sX10_restsIn 100 0 u 1 w) fun v9 w10 => some (v - v9, w10)) hK (by
    rw [eK]
    exact (v_rs (F := F) (M := 97) (d := d + 1) (x := 1) hM hN (by omega) k6).bind (fun u => VV.ret (v - u))))).congr (F := fun w => sX8_perform (F + 7) 63 (nI (tbd 2 1)) x (nI (d + 1)) w) (fun I A => by rw [sX8_perform_s, bX8_perform, if_pos (c_is63 I A tp), if_neg (by decide), if_neg (by decide), if_neg (by decide), if_neg (by decide), if_neg (by decide), if_pos (by decide)]) (fun J B => rfl))).congr (fun I A => rfl) (fun J B => by rw [sX10_fliesIn_s, bX10_fliesIn, if_pos (m_is J B), if_neg (by decide), if_pos (by decide)]; rfl)
theorem v_fl5 {F M d kd : Nat} {x : Int32} (hM : J0 25 = I0 426) (hN : J0 24 = I0 427) (hK : J0 23 = I0 425) (eK : I0 425 = nI kd) (k6 : kd ≤ 6) (hd : d ≤ 31) : VV I0 A0 J0 B0 tp (fun w => sX8_say (F + 10) 63 5 1 x (nI d) w) (fun w => sX10_fliesIn (M + 3) 0 5 x w) :=
  (VV.say (fr := 5) (act := 1) (by decide) (by decide) (by omega) (((v_fl2 (F := F) (M := M) (d := d + 1) (x := x + 1) hM hN hK eK k6 (by omega)).bind (fun v => VV.ret v)).congr (F := fun w => sX8_perform (F + 9) 63 (nI (tbd 5 1)) x (nI (d + 1)) w) (fun I A => by rw [sX8_perform_s, bX8_perform, if_pos (c_is63 I A tp), if_neg (by decide), if_neg (by decide), if_neg (by decide), if_neg (by decide), if_neg (by decide), if_neg (by decide), if_neg (by decide), if_neg (by decide), if_pos (by decide)]) (fun J B => rfl))).congr (fun I A => rfl) (fun J B => by rw [sX10_fliesIn_s, bX10_fliesIn, if_pos (m_is J B), if_neg (by decide), if_neg (by decide), if_pos (by decide)]; rfl)
theorem m_flU {M k k' : Nat} {x : Int32} (hk : (k = 1 ∧ k' = 0) ∨ (k = 3 ∧ k' = 0) ∨ (k = 4 ∧ k' = 1) ∨ (k = 6 ∧ k' = 3)) (J : Nat → Int32) (B : Nat → Nat → Int32) : sX10_fliesIn (M + 1) 0 (nI k) x (mW J B) = sX10_fliesIn M 0 (nI k') x (mW J B) := by
  rw [sX10_fliesIn_s, bX10_fliesIn, if_pos (m_is J B)]
  rcases hk with ⟨rfl, rfl⟩ | ⟨rfl, rfl⟩ | ⟨rfl, rfl⟩ | ⟨rfl, rfl⟩ <;> (rw [if_neg (by decide), if_neg (by decide), if_neg (by decide)]; simp only [ab_b2_eta]; rfl)
theorem v_fl {F M d k kd : Nat} {x : Int32} (hM : J0 25 = I0 426) (hN : J0 24 = I0 427) (hK : J0 23 = I0 425) (eK : I0 425 = nI kd) (k6 : kd ≤ 6) (hd : d ≤ 31) (hk : k ≤ 6) : VV I0 A0 J0 B0 tp (fun w => sX8_say (F + 10) 63 (nI k) 1 x (nI d) w) (fun w => sX10_fliesIn (M + 3) 0 (nI k) x w) := by
  have c0 : VV I0 A0 J0 B0 tp (fun w => sX8_say (F + 10) 63 (nI 0) (nI 1) x (nI d) w) (fun w => sX10_fliesIn (M + 3) 0 (nI 0) x w) := v_fl0 (F := F + 4) (M := M + 2) hN hK eK k6 (by omega)
  have c0b : VV I0 A0 J0 B0 tp (fun w => sX8_say (F + 10) 63 (nI 0) (nI 1) x (nI d) w) (fun w => sX10_fliesIn (M + 2) 0 (nI 0) x w) := v_fl0 (F := F + 4) (M := M + 1) hN hK eK k6 (by omega)
  have c0c : VV I0 A0 J0 B0 tp (fun w => sX8_say (F + 10) 63 (nI 0) (nI 1) x (nI d) w) (fun w => sX10_fliesIn (M + 1) 0 (nI 0) x w) := v_fl0 (F := F + 4) (M := M) hN hK eK k6 (by omega)
  have c2 : VV I0 A0 J0 B0 tp (fun w => sX8_say (F + 10) 63 (nI 2) (nI 1) x (nI d) w) (fun w => sX10_fliesIn (M + 3) 0 (nI 2) x w) := v_fl2 (F := F + 2) (M := M + 1) hM hN hK eK k6 (by omega)
  have c5 : VV I0 A0 J0 B0 tp (fun w => sX8_say (F + 10) 63 (nI 5) (nI 1) x (nI d) w) (fun w => sX10_fliesIn (M + 3) 0 (nI 5) x w) := v_fl5 (F := F) (M := M) hM hN hK eK k6 (by omega)
  rcases (show k = 0 ∨ k = 1 ∨ k = 2 ∨ k = 3 ∨ k = 4 ∨ k = 5 ∨ k = 6 by omega) with rfl | rfl | rfl | rfl | rfl | rfl | rfl
  · exact c0
  · exact c0b.congr (fun I A => say_same (act := 1) (by decide) (by decide) (by decide) (by decide) _ _ _) (fun J B => m_flU (by omega) J B)
  · exact c2
  · exact c0b.congr (fun I A => say_same (act := 1) (by decide) (by decide) (by decide) (by decide) _ _ _) (fun J B => m_flU (by omega) J B)
  · exact c0c.congr (fun I A => say_same (act := 1) (by decide) (by decide) (by decide) (by decide) _ _ _) (fun J B => (m_flU (M := M + 2) (k' := 1) (by omega) J B).trans (m_flU (by omega) J B))
  · exact c5
  · exact c0c.congr (fun I A => say_same (act := 1) (by decide) (by decide) (by decide) (by decide) _ _ _) (fun J B => (m_flU (M := M + 2) (k' := 3) (by omega) J B).trans (m_flU (by omega) J B))
/-! tells -/
theorem v_te0 {F M d kd : Nat} {x : Int32} (hM : J0 25 = I0 426) (hN : J0 24 = I0 427) (hK : J0 23 = I0 425) (eK : I0 425 = nI kd) (k6 : kd ≤ 6) (hd : d ≤ 30) : VV I0 A0 J0 B0 tp (fun w => sX8_say (F + 12) 63 0 3 x (nI d) w) (fun w => sX10_tellsIn (M + 1) 0 0 x w) :=
  (VV.say (fr := 0) (act := 3) (by decide) (by decide) (by omega) ((VV.getK (F := fun u w => ab_b2 (sX8_say (F + 10) 63 u 1 x (nI (d + 1)) w) fun v7 w8 => (ab_getI w8 8 63 2).bind fun v9 => ab_b2 (sX8_say (F + 10) 63 v9 2 x (nI (d + 1)) w8) fun v10 w11 => some (v7 ^^^ v10, w11)) (G := fun u w => ab_b2 (sX10_fliesIn 100 0 u x w) fun v3 w4 => (ab_getI w4 10 0 23).bind fun v5 => ab_b2 (sX10_restsIn 100 0 v5 x w4) fun v6 w7 => some (v3 ^^^ v6, w7)) hK (by
    rw [eK]
    exact (v_fl (F := F) (M := 97) (d := d + 1) (x := x) hM hN hK eK k6 (by omega) k6).bind (fun v => VV.getK (F := fun u w => ab_b2 (sX8_say (F + 10) 63 u 2 x (nI (d + 1)) w) fun v10 w11 => some (v ^^^ v10, w11)) (G := fun u w => ab_b2 (sX10_restsIn 100 0 u x w) fun v6 w7 => some (v ^^^ v6, w7)) hK (by
      rw [eK]
      exact (v_rs (F := F + 4) (M := 97) (d := d + 1) (x := x) hM hN (by omega) k6).bind (fun u => VV.ret (v ^^^ u)))))).congr (F := fun w => sX8_perform (F + 11) 63 (nI (tbd 0 3)) x (nI (d + 1)) w) (fun I A => by rw [sX8_perform_s, bX8_perform, if_pos (c_is63 I A tp), if_neg (by decide), if_neg (by decide), if_neg (by decide), if_pos (by decide)]) (fun J B => rfl))).congr (fun I A => rfl) (fun J B => by rw [sX10_tellsIn_s, bX10_tellsIn, if_pos (m_is J B), if_pos (by decide)]; rfl)
theorem m_teU {M k k' : Nat} {x : Int32} (hk : (k = 1 ∧ k' = 0) ∨ (k = 2 ∧ k' = 0) ∨ (k = 3 ∧ k' = 0) ∨ (k = 5 ∧ k' = 2)) (J : Nat → Int32) (B : Nat → Nat → Int32) : sX10_tellsIn (M + 1) 0 (nI k) x (mW J B) = sX10_tellsIn M 0 (nI k') x (mW J B) := by
  rw [sX10_tellsIn_s, bX10_tellsIn, if_pos (m_is J B)]
  rcases hk with ⟨rfl, rfl⟩ | ⟨rfl, rfl⟩ | ⟨rfl, rfl⟩ | ⟨rfl, rfl⟩ <;> (rw [if_neg (by decide), if_neg (by decide), if_neg (by decide)]; simp only [ab_b2_eta]; rfl)
theorem v_te4 {F M d kd : Nat} {x : Int32} (hM : J0 25 = I0 426) (hN : J0 24 = I0 427) (hK : J0 23 = I0 425) (eK : I0 425 = nI kd) (k6 : kd ≤ 6) (hd : d ≤ 29) : VV I0 A0 J0 B0 tp (fun w => sX8_say (F + 14) 63 4 3 x (nI d) w) (fun w => sX10_tellsIn (M + 3) 0 4 x w) :=
  (VV.say (fr := 4) (act := 3) (by decide) (by decide) (by omega) (((((v_te0 (F := F) (M := M) (d := d + 1) (x := x) hM hN hK eK k6 (by omega)).congr (F := fun w => sX8_say (F + 12) 63 1 3 x (nI (d + 1)) w) (G := fun w => sX10_tellsIn (M + 2) 0 1 x w) (fun I A => say_same (fr := 1) (fr' := 0) (act := 3) (by decide) (by decide) (by decide) (by decide) _ _ _) (fun J B => m_teU (k := 1) (k' := 0) (by omega) J B))).bind (fun v => VV.getK (F := fun u w => ab_b2 (sX8_say (F + 12) 63 u 0 2 (nI (d + 1)) w) fun v24 w25 => some (v - v24, w25)) (G := fun u w => ab_b2 (sX10_creasesIn 100 0 u 2 w) fun v12 w13 => some (v - v12, w13)) hK (by
    rw [eK]
    exact (v_cr (F := F + 8) (M := 97) (d := d + 1) (x := 2) hN (by omega) k6).bind (fun u => VV.ret (v - u))))).congr (F := fun w => sX8_perform (F + 13) 63 (nI (tbd 4 3)) x (nI (d + 1)) w) (fun I A => by rw [sX8_perform_s, bX8_perform, if_pos (c_is63 I A tp), if_neg (by decide), if_neg (by decide), if_neg (by decide), if_neg (by decide), if_neg (by decide), if_neg (by decide), if_neg (by decide), if_pos (by decide)]) (fun J B => rfl))).congr (fun I A => rfl) (fun J B => by rw [sX10_tellsIn_s, bX10_tellsIn, if_pos (m_is J B), if_neg (by decide), if_pos (by decide)]; rfl)
theorem v_te6 {F M d kd : Nat} {x : Int32} (hM : J0 25 = I0 426) (hN : J0 24 = I0 427) (hK : J0 23 = I0 425) (eK : I0 425 = nI kd) (k6 : kd ≤ 6) (hd : d ≤ 29) : VV I0 A0 J0 B0 tp (fun w => sX8_say (F + 14) 63 6 3 x (nI d) w) (fun w => sX10_tellsIn (M + 3) 0 6 x w) :=
  (VV.say (fr := 6) (act := 3) (by decide) (by decide) (by omega) ((VV.getK (F := fun u w => ab_b2 (sX8_say (F + 12) 63 u 1 x (nI (d + 1)) w) fun v32 w33 => ab_b2 (sX8_say (F + 12) 63 3 3 x (nI (d + 1)) w33) fun v34 w35 => some (v32 - v34, w35)) (G := fun u w => ab_b2 (sX10_fliesIn 100 0 u x w) fun v16 w17 => ab_b2 (sX10_tellsIn (M + 2) 0 3 x w17) fun v18 w19 => some (v16 - v18, w19)) hK (by
    rw [eK]
    exact (v_fl (F := F + 2) (M := 97) (d := d + 1) (x := x) hM hN hK eK k6 (by omega) k6).bind (fun v => ((v_te0 (F := F) (M := M) (d := d + 1) (x := x) hM hN hK eK k6 (by omega)).congr (F := fun w => sX8_say (F + 12) 63 3 3 x (nI (d + 1)) w) (G := fun w => sX10_tellsIn (M + 2) 0 3 x w) (fun I A => say_same (fr := 3) (fr' := 0) (act := 3) (by decide) (by decide) (by decide) (by decide) _ _ _) (fun J B => m_teU (k := 3) (k' := 0) (by omega) J B)).bind (fun u => VV.ret (v - u))))).congr (F := fun w => sX8_perform (F + 13) 63 (nI (tbd 6 3)) x (nI (d + 1)) w) (fun I A => by rw [sX8_perform_s, bX8_perform, if_pos (c_is63 I A tp), if_neg (by decide), if_neg (by decide), if_neg (by decide), if_neg (by decide), if_neg (by decide), if_neg (by decide), if_neg (by decide), if_neg (by decide), if_neg (by decide), if_neg (by decide), if_pos (by decide)]) (fun J B => rfl))).congr (fun I A => rfl) (fun J B => by rw [sX10_tellsIn_s, bX10_tellsIn, if_pos (m_is J B), if_neg (by decide), if_neg (by decide), if_pos (by decide)]; rfl)
theorem v_te {F M d k kd : Nat} {x : Int32} (hM : J0 25 = I0 426) (hN : J0 24 = I0 427) (hK : J0 23 = I0 425) (eK : I0 425 = nI kd) (k6 : kd ≤ 6) (hd : d ≤ 29) (hk : k ≤ 6) : VV I0 A0 J0 B0 tp (fun w => sX8_say (F + 14) 63 (nI k) 3 x (nI d) w) (fun w => sX10_tellsIn (M + 3) 0 (nI k) x w) := by
  have c0 : VV I0 A0 J0 B0 tp (fun w => sX8_say (F + 14) 63 (nI 0) (nI 3) x (nI d) w) (fun w => sX10_tellsIn (M + 3) 0 (nI 0) x w) := v_te0 (F := F + 2) (M := M + 2) hM hN hK eK k6 (by omega)
  have c0b : VV I0 A0 J0 B0 tp (fun w => sX8_say (F + 14) 63 (nI 0) (nI 3) x (nI d) w) (fun w => sX10_tellsIn (M + 2) 0 (nI 0) x w) := v_te0 (F := F + 2) (M := M + 1) hM hN hK eK k6 (by omega)
  have c0c : VV I0 A0 J0 B0 tp (fun w => sX8_say (F + 14) 63 (nI 0) (nI 3) x (nI d) w) (fun w => sX10_tellsIn (M + 1) 0 (nI 0) x w) := v_te0 (F := F + 2) (M := M) hM hN hK eK k6 (by omega)
  rcases (show k = 0 ∨ k = 1 ∨ k = 2 ∨ k = 3 ∨ k = 4 ∨ k = 5 ∨ k = 6 by omega) with rfl | rfl | rfl | rfl | rfl | rfl | rfl
  · exact c0
  · exact c0b.congr (fun I A => say_same (act := 3) (by decide) (by decide) (by decide) (by decide) _ _ _) (fun J B => m_teU (by omega) J B)
  · exact c0b.congr (fun I A => say_same (act := 3) (by decide) (by decide) (by decide) (by decide) _ _ _) (fun J B => m_teU (by omega) J B)
  · exact c0b.congr (fun I A => say_same (act := 3) (by decide) (by decide) (by decide) (by decide) _ _ _) (fun J B => m_teU (by omega) J B)
  · exact v_te4 (F := F) (M := M) hM hN hK eK k6 hd
  · exact c0c.congr (fun I A => say_same (act := 3) (by decide) (by decide) (by decide) (by decide) _ _ _) (fun J B => (m_teU (M := M + 2) (k' := 2) (by omega) J B).trans (m_teU (by omega) J B))
  · exact v_te6 (F := F) (M := M) hM hN hK eK k6 hd
end VO
section OP
variable {n : Nat} {I J : Nat → Int32} {A B : Nat → Nat → Int32} {tp : Nat}
theorem RR.voice {I0 J0 I' J' : Nat → Int32} {A' B' : Nat → Nat → Int32} (h : RR n I A J B) (hI : ∀ i, i ≠ 424 → i ≠ 425 → i ≠ 426 → i ≠ 427 → I0 i = I i) (hJ : ∀ i, i < 22 → J0 i = J i) (hV : VS I0 A J0 B I' A' J' B') : RR n I' A' J' B' := by
  obtain ⟨h1, h2, h3, h4, h5, k1, k2⟩ := h
  obtain ⟨v1, v2, v3, v4, v5, v6, v7⟩ := hV
  have hI' : ∀ i, i ≠ 424 → i ≠ 425 → i ≠ 426 → i ≠ 427 → I' i = I i := fun i a b c d => (v1 i a).trans (hI i a b c d)
  have hJ' : ∀ i, i < 22 → J' i = J i := fun i hi => (v3 i (by omega)).trans (hJ i hi)
  refine ⟨?_, ?_, fun s hs => ?_, ?_, ⟨v5, v6, v7⟩, ?_, ?_⟩
  · rw [v2 19 (by decide), v2 21 (by decide), v2 31 (by decide), v2 34 (by decide), v4 1 (by decide)]
    exact h1.congr (fun i hi => hI' i (by omega) (by omega) (by omega) (by omega))
  · rw [v2 1 (by decide), v4 5 (by decide)]; exact h2
  · obtain ⟨g1, g2, g3, g4, g5⟩ := h3 s hs
    rw [hI' _ (by omega) (by omega) (by omega) (by omega), hI' _ (by omega) (by omega) (by omega) (by omega), v4 8 (by decide), v4 9 (by decide), v4 10 (by decide), v2 _ (by omega)]
    exact ⟨g1, g2, g3, g4, g5⟩
  · rw [v2 12 (by decide), v2 13 (by decide)]; exact h4
  · rw [hI' _ (by omega) (by omega) (by omega) (by omega), hJ' 5 (by decide)]; exact k1
  · rw [hJ' 4 (by decide), hJ' 5 (by decide), v2 38 (by decide), v2 40 (by decide), v2 50 (by decide), v2 53 (by decide), v4 2 (by decide)]
    rcases k2 with k2 | ⟨k2, k3, k4⟩
    · exact Or.inl k2
    · exact Or.inr ⟨k2, k3, k4.congr (fun i hi => hI' _ (by omega) (by omega) (by omega) (by omega))⟩
theorem op_voice (h : RR n I A J B) (kk v x : Int32) : OK n (sX9_voice 0 kk v x (cW I A tp)) (sX10_voice 0 kk v x (mW J B)) := by
  obtain ⟨c, hc8, hcB, hcI⟩ := h.many
  by_cases hp : isP kk c
  · obtain ⟨j, hj, rfl⟩ := hp
    have hj8 : j < 8 := by omega
    by_cases hv : inR v 0 3
    · have hv2 := hv
      obtain ⟨q, -, q3, rfl⟩ := hv
      obtain ⟨kd, k6, kB, kI⟩ := h.pv (q := 0) hj8 (by decide)
      have eM := h.at (okP (j := j) (q := 1) hj8 (by decide))
      simp only [List.getD_cons_zero, List.getD_cons_succ] at k6
      have hV0 : VS (upd (upd (upd (upd I 424 0) 425 (nI kd)) 426 (B 1 (8 + 6 * j + 1))) 427 (nI j)) A (upd (upd (upd (upd J 22 0) 23 (nI kd)) 24 (nI j)) 25 (B 1 (8 + 6 * j + 1))) B (upd (upd (upd (upd I 424 0) 425 (nI kd)) 426 (B 1 (8 + 6 * j + 1))) 427 (nI j)) A (upd (upd (upd (upd J 22 0) 23 (nI kd)) 24 (nI j)) 25 (B 1 (8 + 6 * j + 1))) B := ⟨fun _ _ => rfl, fun _ _ => rfl, fun _ _ => rfl, fun _ _ => rfl, rfl, inN_0, h.2.2.2.2.1.2.2⟩
      have key : VV (upd (upd (upd (upd I 424 0) 425 (nI kd)) 426 (B 1 (8 + 6 * j + 1))) 427 (nI j)) A (upd (upd (upd (upd J 22 0) 23 (nI kd)) 24 (nI j)) 25 (B 1 (8 + 6 * j + 1))) B tp (fun w => sX8_say 100 63 (nI kd) (nI q) x 0 w) (fun w => if nI q = 0 then sX10_creasesIn 100 0 (nI kd) x w else if nI q = 1 then sX10_fliesIn 100 0 (nI kd) x w else if nI q = 2 then sX10_restsIn 100 0 (nI kd) x w else sX10_tellsIn 100 0 (nI kd) x w) := by
        rcases (show q = 0 ∨ q = 1 ∨ q = 2 ∨ q = 3 by omega) with rfl | rfl | rfl | rfl
        · exact v_cr (F := 96) (M := 97) (d := 0) rfl (by omega) k6
        · exact v_fl (F := 90) (M := 97) (d := 0) rfl rfl rfl rfl k6 (by omega) k6
        · exact v_rs (F := 94) (M := 97) (d := 0) rfl rfl (by omega) k6
        · exact v_te (F := 86) (M := 97) (d := 0) rfl rfl rfl rfl k6 (by omega) k6
      obtain ⟨res, I', A', J', B', e1, e2, e3⟩ := key _ _ _ _ hV0
      refine ⟨res, I', A', tp, J', B', ?_, ?_, (h.voice (fun i a b c d => by simp (disch := omega) only [upd_ne]) (fun i hi => by simp (disch := omega) only [upd_ne]) e3).mono⟩
      · rw [sX9_voice, if_pos (c_is0 I A tp), c_R0_3, Option.bind_some, c_has_T hcI hj hc8, ab_b2_some, if_neg (by decide), cT_0_3 hv2, ab_b2_some, if_neg (by decide), c_R0_7, Option.bind_some, c_R0_3, Option.bind_some, c_R17_0, Option.bind_some, c_Q18 I A tp hj8, Option.bind_some, ab_b2_eta, sX8_speak, if_pos (c_is63 I A tp), c_P63_1, Option.bind_some, c_pI _ _ _ hj8 0 (by decide), Option.bind_some, upd_ne (by omega), kI, c_P63_2, Option.bind_some, c_pI _ _ _ hj8 1 (by decide), Option.bind_some, upd_ne (by omega), upd_ne (by omega), eM, c_P63_3, Option.bind_some, c_P63_4, Option.bind_some, c_I63_2, Option.bind_some, ab_b2_eta]
        exact e1
      · rw [sX10_voice, if_pos (m_is J B), m_isP_T hcB hj hc8, ab_b2_some, if_neg (by decide), mT_0_3 hv2, ab_b2_some, if_neg (by decide), m_P22, Option.bind_some, m_i0 hj8, ab_b2_some, kB, m_P23, Option.bind_some, m_P24, Option.bind_some, m_i1 hj8, ab_b2_some, m_P25, Option.bind_some]
        simp only [m_I23, Option.bind_some, ab_b2_eta]
        exact e2
    · refine ok_err (tp := tp) (-1000000001) 1 (by decide) h ?_ ?_
      · rw [sX9_voice, if_pos (c_is0 I A tp), c_R0_3, Option.bind_some, c_has_T hcI hj hc8, ab_b2_some, if_neg (by decide), cF_0_3 hv]
        rfl
      · rw [sX10_voice, if_pos (m_is J B), m_isP_T hcB hj hc8, ab_b2_some, if_neg (by decide), mF_0_3 hv]
        rfl
  · refine ok_err (tp := tp) (-1000000001) 1 (by decide) h ?_ ?_
    · rw [sX9_voice, if_pos (c_is0 I A tp), c_R0_3, Option.bind_some, c_has_F hcI hc8 hp]
      rfl
    · rw [sX10_voice, if_pos (m_is J B), m_isP_F hcB hc8 hp]
      rfl
end OP
