section OP
variable {n : Nat} {I J : Nat → Int32} {A B : Nat → Nat → Int32} {tp : Nat} {g0 g1 : Int32 → Int32 → Int32 → Nat} {r : Nat → Int32}
theorem TH.J6 {J1 J2 : Nat → Int32} {B1 B2 : Nat → Nat → Int32} (h : TH J B J1 B1) (hJ : mJ J1 J2) (hB : ∀ k, k ≠ 6 → B2 k = B1 k) : TH J B J2 B2 :=
  ⟨h.1.trans hJ, (hB 1 (by decide)).trans h.2.1, fun i hi => by rw [hB 3 (by decide)]; exact h.2.2.1 i hi, fun k a b c => (hB k c).trans (h.2.2.2 k a b c)⟩
theorem EM.upd1 (h : EM r g0 g1) {i v : Nat} (hi : okI i) (h1 : i ≠ 1) (hv : v ≤ bnd i) : EM (upd r i (nI v)) g0 g1 := by
  obtain ⟨hr, a, b, l0, l1⟩ := h
  obtain ⟨i1, i2, i3⟩ := hi
  refine ⟨fun j hj j1 => ?_, a, b, ?_, ?_⟩
  · by_cases e : j = i
    · subst e; rw [upd_same]; exact inN_nI hv
    · rw [upd_ne e]; exact hr j hj j1
  · rw [upd_ne (by omega)]; exact l0.congr (fun j hj => upd_ne (by omega))
  · rw [upd_ne (by omega)]; exact l1.congr (fun j hj => upd_ne (by omega))
theorem rn_upd_same {i v : Nat} (hv : v < 2 ^ 31) : rn (upd r i (nI v)) i = v := rn_of (upd_same _ _ _) hv
theorem rn_upd_ne {i j v : Nat} (h : j ≠ i) : rn (upd r i (nI v)) j = rn r j := by rw [rn, rn, upd_ne h]
/-! best -/
def bfar (g0 : Int32 → Int32 → Int32 → Nat) (r : Nat → Int32) (j q c : Nat) : Nat := fg true (decide (rn r (8 + 6 * j + 0) = 5)) (str g0 (rn r (8 + 6 * j + 0)) c (r 7)) (rn r 0) (rn r (8 + 6 * j + 5)) q
def bR (F S s412 : Int32) : Prop := (F = -1 ∧ S = -1) ∨ ∃ s f, s < 128 ∧ f ≤ 999 ∧ S = nI s ∧ F = nI f ∧ s412 = nI s
theorem cm_best {j q : Nat} {x : Int32} (hM : EM (B 1) g0 g1) (hC : ∀ j, j < 8 → EC j I A (B 1) g0 g1) (hj : j < rn (B 1) 2) (hq : q ≤ 60) : ∀ (m c k : Nat) (I1 : Nat → Int32) (A1 : Nat → Nat → Int32) (J1 : Nat → Int32) (B1 : Nat → Nat → Int32) (F0 S0 : Int32), c + m = 128 → cG I A I1 A1 → TH J B J1 B1 → I1 413 = F0 → bR F0 S0 (I1 412) → ∃ F S I' A' J' B', sX7_findFarthest_23 (k + m + 1) 55 17 11 (nI q) (22 + j) (nI (stf (rn (B 1) (8 + 6 * j + 0)) (rn (B 1) (8 + 6 * j + 1)))) (nI c) (cW I1 A1 tp) = some (if F < 0 then 0 else 1, cW I' A' tp) ∧ sX10_best_55 (k + m + 1) 0 (nI j) (nI q) x S0 F0 (nI c) (mW J1 B1) = sX10_best_55 (k + 1) 0 (nI j) (nI q) x S F (nI 128) (mW J' B') ∧ cG I A I' A' ∧ TH J B J' B' ∧ I' 413 = F ∧ bR F S (I' 412) := by
  obtain ⟨c1, c2⟩ := rn_c hM.1
  obtain ⟨d1, d2⟩ := rn_d hM.1
  have hj8 : j < 8 := by omega
  have q0 := rn_p hM.1 (j := j) (q := 0) hj8 (by decide)
  have q1 := rn_p hM.1 (j := j) (q := 1) hj8 (by decide)
  have q5 := rn_p hM.1 (j := j) (q := 5) hj8 (by decide)
  simp only [List.getD_cons_zero, List.getD_cons_succ] at q0 q1 q5
  have hst := stf_rng q0.2 q1.2
  intro m
  induction m with
  | zero =>
    intro c k I1 A1 J1 B1 F0 S0 hc hG hT hF hb
    have : c = 128 := by omega
    subst this
    refine ⟨F0, S0, I1, A1, J1, B1, ?_, rfl, hG, hT, hF, hb⟩
    rw [sX7_findFarthest_23, if_neg (by decide), c_I55_3, Option.bind_some, hF]
    split <;> rfl
  | succ m ih =>
    intro c k I1 A1 J1 B1 F0 S0 hc hG hT hF hb
    have hc128 : c < 128 := by omega
    have Ej := (hC j hj8).cong hj8 (fun i hi => hG.1 i (by omega)) hG.2
    have i0 : I1 (8 + 6 * j + 0) = nI (rn (B 1) (8 + 6 * j + 0)) := (Ej.2.2.1 0 (by decide)).trans q0.1
    have i1 : I1 (8 + 6 * j + 1) = nI (rn (B 1) (8 + 6 * j + 1)) := (Ej.2.2.1 1 (by decide)).trans q1.1
    have hRT : RT (A1 12) (A1 13) := Ej.2.2.2.2.2.2.2.2
    have ht := (mxl_thk hc128).2
    rw [show k + (m + 1) + 1 = (k + m + 1) + 1 by omega, sX7_findFarthest_23, if_pos (show nI c < 128 from nI_lt (b := 128) (by omega) (by decide)), c_live hRT hj8 i0 i1 q0.2 q1.2 hc128, ab_b2_some]
    obtain ⟨f, ea⟩ := m_alive (J := J1) (B := B1) hj8 (by rw [hT.2.1]; exact q0.1) (by rw [hT.2.1]; exact q1.1) q0.2 q1.2 hc128
    rw [sX10_best_55, if_neg (show ¬ (127 : Int32) < nI c from nI_nlt (a := 127) (by omega) (by decide)), ea, ab_b2_some]
    have hT1 : TH J B J1 (upB B1 6 f) := hT.J6 (mJ.refl J1) (fun k hk => upB_ne hk)
    cases hal : alv c (rn (B 1) (8 + 6 * j + 0)) (rn (B 1) (8 + 6 * j + 1))
    · rw [if_pos (by decide), if_pos (by decide), sX7_findFarthest_114, sX10_best_158, nI_1]
      exact ih (c + 1) k I1 A1 J1 (upB B1 6 f) F0 S0 (by omega) hG hT1 hF hb
    · rw [if_neg (by decide), if_neg (by decide), c_R11_1, Option.bind_some, c_A13 _ _ _ hc128, Option.bind_some, (hRT c hc128).2, m_thick hc128, ab_b2_some]
      have hT2 : TH J B J1 (upB (upB B1 6 f) 6 (lyF c 7 (upB B1 6 f 6))) := hT1.J6 (mJ.refl J1) (fun k hk => upB_ne hk)
      generalize upB (upB B1 6 f) 6 (lyF c 7 (upB B1 6 f 6)) = B2 at hT2 ⊢
      rw [m_stiff hj8 (by rw [hT2.2.1]; exact q0.1) (by rw [hT2.2.1]; exact q1.1) q0.2 q1.2, ab_b2_some]
      by_cases hlt : stf (rn (B 1) (8 + 6 * j + 0)) (rn (B 1) (8 + 6 * j + 1)) < thk c
      · rw [if_pos (nI_lt hlt (by omega)), if_pos (nI_lt hlt (by omega)), sX7_findFarthest_114, sX10_best_158, nI_1]
        exact ih (c + 1) k I1 A1 J1 B2 F0 S0 (by omega) hG hT2 hF hb
      · rw [if_neg (nI_nlt (by omega) (by omega)), if_neg (nI_nlt (by omega) (by omega))]
        obtain ⟨I2, I3, A3, e1, a1, e2, k3, hFS⟩ := c_start (tp := tp) (c := c) (w := B 1 7) true Ej hj8 hc128
        have hs := str_le (kd := rn (B 1) (8 + 6 * j + 0)) (c := c) (w := B 1 7) hM.2.1 hc128
        obtain ⟨I4, e4, k4⟩ := c_farGone (A := A3) (tp := tp) (q := q) (dy := rn (B 1) 0) q5.2 (by omega) (by omega) d2 hFS
        rw [← bfar] at e4
        have hbf : bfar g0 (B 1) j q c ≤ 999 := fg_le q5.2 q
        have hM' : EM (upd (upd (B 1) (8 + 6 * j + 3) (nI c)) (8 + 6 * j + 4) (nI 1)) g0 g1 := (hM.upd1 (okP hj8 (by decide)) (by omega) (by rw [(bndP hj8).2.2.2.1]; omega)).upd1 (okP hj8 (by decide)) (by omega) (by rw [(bndP hj8).2.2.2.2.1]; omega)
        obtain ⟨J5, B5, e5, h5⟩ := m_passes (J := J1) (B := up2 (up2 B2 1 (8 + 6 * j + 3) (nI c)) 1 (8 + 6 * j + 4) (nI 1)) hM' (q := q) (by omega) (by rw [up2_at, up2_at, hT2.2.1])
        have ev : B5 1 (8 + 6 * j + 5) = nI (bfar g0 (B 1) j q c) := by
          rw [h5.2.1, rt_far (by rw [rn_upd_ne (by omega), rn_upd_ne (by omega)]; exact hj), if_neg (by omega), fT, bfar]
          simp (disch := omega) only [rn_upd_ne, upd_ne, rn_upd_same, decide_true]
        obtain ⟨B6, e6, t6⟩ := m_thb hT2 h5.1 h5.2.1 (fun k a b => by rw [h5.2.2 k a b, up2_ne a, up2_ne a]) (fun i hi => by
          rw [rt_far226 hM'.1 i hi, upd_ne (by omega), upd_ne (by omega)])
        have hG4 : cG I A I4 A3 := ⟨fun i hi => by rw [k4.1 i (by omega), k3.1 i (by omega)]; exact hG.1 i hi, fun k a b => by rw [k3.2 k a b]; exact hG.2 k a b⟩
        have F4 : I4 413 = F0 := by rw [k4.1 413 (by omega), k3.1 413 (by omega)]; exact hF
        have S4 : I4 412 = I1 412 := by rw [k4.1 412 (by omega), k3.1 412 (by omega)]
        rw [c_R55_4, Option.bind_some, show sX1_begin 56 (22 + j) 1 (cW I1 A1 tp) = _ from e1, Option.bind_some, c_pI _ _ _ hj8 0 (by decide), Option.bind_some, c_I17_6, Option.bind_some, a1 _ (by omega), a1 _ (by omega), i0, Ej.2.1, e2, Option.bind_some, c_I17_5, Option.bind_some, k3.1 0 (by omega), Ej.1, d1, e4, ab_b2_some, c_I55_3, Option.bind_some, F4]
        rw [m_g3 hj8, Option.bind_some, show sX10_gets 0 (nI j) 4 1 (mW J1 (up2 B2 1 (8 + 6 * j + 3) (nI c))) = _ from m_g4 hj8 (nI 1), Option.bind_some, e5, Option.bind_some, m_i5 hj8, ab_b2_some, ev, m_R2, Option.bind_some, m_R0, Option.bind_some, e6, Option.bind_some]
        have hcmp : F0 < nI (bfar g0 (B 1) j q c) ∨ ¬ F0 < nI (bfar g0 (B 1) j q c) := Classical.em _
        rcases hcmp with hcmp | hcmp
        · rw [if_pos hcmp, if_pos hcmp, c_P55_3, Option.bind_some, c_P55_2, Option.bind_some, sX7_findFarthest_114, sX10_best_140, if_pos hcmp, sX10_best_156, sX10_best_158, nI_1]
          refine ih (c + 1) k _ _ J5 B6 (nI (bfar g0 (B 1) j q c)) (nI c) (by omega) ⟨fun i hi => by rw [upd_ne (by omega), upd_ne (by omega)]; exact hG4.1 i hi, hG4.2⟩ t6 (by rw [upd_ne (by decide), upd_same]) (Or.inr ⟨c, bfar g0 (B 1) j q c, hc128, hbf, rfl, rfl, upd_same _ _ _⟩)
        · rw [if_neg hcmp, if_neg hcmp, sX7_findFarthest_114, sX10_best_140, if_neg hcmp, sX10_best_156, sX10_best_158, nI_1]
          exact ih (c + 1) k _ _ J5 B6 F0 S0 (by omega) hG4 t6 F4 (by rw [S4]; exact hb)
theorem op_best (h : RR n I A J B) (kk v x : Int32) : OK n (sX9_best 0 kk v x (cW I A tp)) (sX10_best 0 kk v x (mW J B)) := by
  obtain ⟨c, hc8, hcB, hcI⟩ := h.many
  by_cases hp : isP kk c
  · obtain ⟨j, hj, rfl⟩ := hp
    have hj8 : j < 8 := by omega
    by_cases hv : inR v 0 60
    · have hv2 := hv
      obtain ⟨q, -, q2, rfl⟩ := hv
      by_cases hx : inR x 0 1
      · have hx2 := hx
        obtain ⟨y, -, y1, rfl⟩ := hx
        obtain ⟨g0, g1, hM, hC⟩ := h.laws
        have hcr : rn (B 1) 2 = c := rn_of hcB (by omega)
        have q0 := rn_p hM.1 (j := j) (q := 0) hj8 (by decide)
        have q1 := rn_p hM.1 (j := j) (q := 1) hj8 (by decide)
        simp only [List.getD_cons_zero, List.getD_cons_succ] at q0 q1
        obtain ⟨B1, e1, t1⟩ := m_th0 (J := J) (B := B)
        obtain ⟨F, S, I', A', J', B', f1, f2, f3, f4, f5, f6⟩ := cm_best (tp := tp) (x := nI y) (j := j) (q := q) hM hC (by omega) q2 128 0 871 (upd I 413 (-1)) A J B1 (-1) (-1) rfl ⟨fun i hi => upd_ne (by omega), fun _ _ _ => rfl⟩ t1 (upd_same _ _ _) (Or.inl ⟨rfl, rfl⟩)
        have ec : sX9_best 0 (nI j) (nI q) (nI y) (cW I A tp) = ab_b2 (some (if F < 0 then 0 else 1, cW I' A' tp)) fun v11 w12 => if v11 = 0 then ab_b2 (sX9_fail 0 2 w12) fun v13 w14 => some (v13, w14) else if nI y = 0 then (ab_getR w12 9 0 5).bind fun v15 => (ab_getI w12 7 v15 2).bind fun v16 => some (v16, w12) else (ab_getR w12 9 0 5).bind fun v17 => (ab_getI w12 7 v17 3).bind fun v18 => some (v18, w12) := by
          rw [sX9_best, if_pos (c_is0 I A tp), c_R0_3, Option.bind_some, c_has_T hcI hj hc8, ab_b2_some, if_neg (by decide), cT_0_60 hv2, ab_b2_some, if_neg (by decide), cT_0_1 hx2, ab_b2_some, if_neg (by decide), c_R0_5, Option.bind_some, c_R0_3, Option.bind_some, c_R0_2, Option.bind_some, sX7_findFarthest, if_pos (c_is55 I A tp), c_R17_0, Option.bind_some, c_Q18 I A tp hj8, Option.bind_some, c_stiff hj8 (((hC j hj8).2.2.1 0 (by decide)).trans q0.1) (((hC j hj8).2.2.1 1 (by decide)).trans q1.1) q0.2 q1.2, ab_b2_some, c_P55_3, Option.bind_some, show sX7_findFarthest_23 1000 55 17 11 (nI q) (22 + j) (nI (stf (rn (B 1) (8 + 6 * j + 0)) (rn (B 1) (8 + 6 * j + 1)))) 0 (cW (upd I 413 (-1)) A tp) = _ from f1]
        have em : sX10_best 0 (nI j) (nI q) (nI y) (mW J B) = if S < 0 then ab_b2 (sX10_errs 0 (-1000000002) (mW J' B')) fun v1 w2 => some (v1, w2) else if nI y = 0 then some (S, mW J' B') else some (F, mW J' B') := by
          rw [sX10_best, if_pos (m_is J B), m_isP_T hcB hj hc8, ab_b2_some, if_neg (by decide), mT_0_60 hv2, ab_b2_some, if_neg (by decide), mT_0_1 hx2, ab_b2_some, if_neg (by decide), m_R0, Option.bind_some, m_R2, Option.bind_some, e1, Option.bind_some, show sX10_best_55 1000 0 (nI j) (nI q) (nI y) (-1) (-1) 0 (mW J B1) = _ from f2, sX10_best_55, if_pos (by decide)]
        rw [ec, em, ab_b2_some]
        rcases f6 with ⟨rfl, rfl⟩ | ⟨s, f, hs, hf, rfl, rfl, e412⟩
        · rw [if_pos (show (-1 : Int32) < 0 by decide), if_pos rfl, if_pos (by decide)]
          exact ok_err (tp := tp) (-1000000002) 2 (by decide) (h.congr f3.cE f4.mE) rfl rfl
        · rw [if_neg (nI_pos (by omega)), if_neg (by decide), if_neg (nI_pos (by omega))]
          rcases (show y = 0 ∨ y = 1 by omega) with rfl | rfl
          · refine ok_same (tp := tp) (nI s) h ?_ ?_ f3.cE f4.mE
            · rw [if_pos (by decide), c_R0_5, Option.bind_some, c_I55_2, Option.bind_some, e412]
            · rw [if_pos (by decide)]
          · refine ok_same (tp := tp) (nI f) h ?_ ?_ f3.cE f4.mE
            · rw [if_neg (by decide), c_R0_5, Option.bind_some, c_I55_3, Option.bind_some, f5]
            · rw [if_neg (by decide)]
      · refine ok_err (tp := tp) (-1000000001) 1 (by decide) h ?_ ?_
        · rw [sX9_best, if_pos (c_is0 I A tp), c_R0_3, Option.bind_some, c_has_T hcI hj hc8, ab_b2_some, if_neg (by decide), cT_0_60 hv2, ab_b2_some, if_neg (by decide), cF_0_1 hx]
          rfl
        · rw [sX10_best, if_pos (m_is J B), m_isP_T hcB hj hc8, ab_b2_some, if_neg (by decide), mT_0_60 hv2, ab_b2_some, if_neg (by decide), mF_0_1 hx]
          rfl
    · refine ok_err (tp := tp) (-1000000001) 1 (by decide) h ?_ ?_
      · rw [sX9_best, if_pos (c_is0 I A tp), c_R0_3, Option.bind_some, c_has_T hcI hj hc8, ab_b2_some, if_neg (by decide), cF_0_60 hv]
        rfl
      · rw [sX10_best, if_pos (m_is J B), m_isP_T hcB hj hc8, ab_b2_some, if_neg (by decide), mF_0_60 hv]
        rfl
  · refine ok_err (tp := tp) (-1000000001) 1 (by decide) h ?_ ?_
    · rw [sX9_best, if_pos (c_is0 I A tp), c_R0_3, Option.bind_some, c_has_F hcI hc8 hp]
      rfl
    · rw [sX10_best, if_pos (m_is J B), m_isP_F hcB hc8 hp]
      rfl
end OP
