/-! ===== texts: signs, bytes, and how steps are worked out ===== -/
def jn (s l r : Int32) : Int32 :=
  if s = 37 then (if r = 0 then 0 else l - l / r * r) else if s = 38 then (if l = 0 then 0 else if r = 0 then 0 else 1) else if s = 42 then l * r else if s = 43 then l + r else if s = 45 then l - r else
  if s = 47 then (if r = 0 then 0 else l / r) else if s = 60 then (if l < r then 1 else 0) else if s = 61 then (if l = r then 1 else 0) else if s = 62 then (if r < l then 1 else 0) else
  if s = 124 then (if l = 0 then (if r = 0 then 0 else 1) else 1) else 0
theorem c_joined (s l r : Int32) (w : ab_W) : sX2_joined s l r w = some (jn s l r, w) := by
  rw [sX2_joined, jn]
  by_cases h1 : s = 37
  · rw [if_pos h1, if_pos h1]
    by_cases h : r = 0
    · rw [if_pos h, if_pos h]
    · rw [if_neg h, if_neg h, ab_rem, if_neg h]; rfl
  rw [if_neg h1, if_neg h1]
  by_cases h2 : s = 38
  · rw [if_pos h2, if_pos h2]
    by_cases h : l = 0
    · rw [if_pos h, if_pos h]
    · rw [if_neg h, if_neg h]
      by_cases h' : r = 0
      · rw [if_pos h', if_pos h']
      · rw [if_neg h', if_neg h']
  rw [if_neg h2, if_neg h2]
  by_cases h3 : s = 42
  · rw [if_pos h3, if_pos h3]
  rw [if_neg h3, if_neg h3]
  by_cases h4 : s = 43
  · rw [if_pos h4, if_pos h4]
  rw [if_neg h4, if_neg h4]
  by_cases h5 : s = 45
  · rw [if_pos h5, if_pos h5]
  rw [if_neg h5, if_neg h5]
  by_cases h6 : s = 47
  · rw [if_pos h6, if_pos h6]
    by_cases h : r = 0
    · rw [if_pos h, if_pos h]
    · rw [if_neg h, if_neg h, ab_div, if_neg h]; rfl
  rw [if_neg h6, if_neg h6]
  by_cases h7 : s = 60
  · rw [if_pos h7, if_pos h7]
    by_cases h : l < r
    · rw [if_pos h, if_pos h]
    · rw [if_neg h, if_neg h]
  rw [if_neg h7, if_neg h7]
  by_cases h8 : s = 61
  · rw [if_pos h8, if_pos h8]
    by_cases h : l = r
    · rw [if_pos h, if_pos h]
    · rw [if_neg h, if_neg h]
  rw [if_neg h8, if_neg h8]
  by_cases h9 : s = 62
  · rw [if_pos h9, if_pos h9]
    by_cases h : r < l
    · rw [if_pos h, if_pos h]
    · rw [if_neg h, if_neg h]
  rw [if_neg h9, if_neg h9]
  by_cases h10 : s = 124
  · rw [if_pos h10, if_pos h10]
    by_cases h : l = 0
    · rw [if_pos h, if_pos h]
      by_cases h' : r = 0
      · rw [if_pos h', if_pos h']
      · rw [if_neg h', if_neg h']; rfl
    · rw [if_neg h, if_neg h]; rfl
  rw [if_neg h10, if_neg h10]
/-- the level at which a sign joins; 9: none -/
def lv (s : Int32) : Nat :=
  if s = 37 then 4 else if s = 38 then 1 else if s = 42 then 4 else if s = 43 then 3 else if s = 45 then 3 else if s = 47 then 4 else if s = 60 then 2 else if s = 61 then 2 else if s = 62 then 2 else if s = 124 then 0 else 9
theorem c_lv {s : Int32} {L : Nat} (hL : L ≤ 5) (w : ab_W) : ∃ v, sX4_levelOf s w = some (v, w) ∧ (v = nI L ↔ lv s = L) := by
  have neg : ((-1 : Int32) = nI L ↔ 9 = L) := ⟨fun h => absurd h.symm (neg1 (by omega)), fun h => absurd h (by omega)⟩
  have pos : ∀ k : Nat, k < 9 → ((nI k : Int32) = nI L ↔ k = L) := fun k hk => nI_eq (by omega) (by omega)
  rw [sX4_levelOf, lv]
  by_cases h1 : s = 37
  · rw [if_pos h1, if_pos h1]; exact ⟨4, rfl, pos 4 (by decide)⟩
  rw [if_neg h1, if_neg h1]
  by_cases h2 : s = 38
  · rw [if_pos h2, if_pos h2]; exact ⟨1, rfl, pos 1 (by decide)⟩
  rw [if_neg h2, if_neg h2]
  by_cases h3 : s = 42
  · rw [if_pos h3, if_pos h3]; exact ⟨4, rfl, pos 4 (by decide)⟩
  rw [if_neg h3, if_neg h3]
  by_cases h4 : s = 43
  · rw [if_pos h4, if_pos h4]; exact ⟨3, rfl, pos 3 (by decide)⟩
  rw [if_neg h4, if_neg h4]
  by_cases h5 : s = 45
  · rw [if_pos h5, if_pos h5]; exact ⟨3, rfl, pos 3 (by decide)⟩
  rw [if_neg h5, if_neg h5]
  by_cases h6 : s = 47
  · rw [if_pos h6, if_pos h6]; exact ⟨4, rfl, pos 4 (by decide)⟩
  rw [if_neg h6, if_neg h6]
  by_cases h7 : s = 60
  · rw [if_pos h7, if_pos h7]; exact ⟨2, rfl, pos 2 (by decide)⟩
  rw [if_neg h7, if_neg h7]
  by_cases h8 : s = 61
  · rw [if_pos h8, if_pos h8]; exact ⟨2, rfl, pos 2 (by decide)⟩
  rw [if_neg h8, if_neg h8]
  by_cases h9 : s = 62
  · rw [if_pos h9, if_pos h9]; exact ⟨2, rfl, pos 2 (by decide)⟩
  rw [if_neg h9, if_neg h9]
  by_cases h10 : s = 124
  · rw [if_pos h10, if_pos h10]; exact ⟨0, rfl, pos 0 (by decide)⟩
  rw [if_neg h10, if_neg h10]
  exact ⟨-1, rfl, neg⟩
/-! how steps are worked out -/
section RU
variable {I : Nat → Int32} {A : Nat → Nat → Int32} {tp : Nat}
theorem c_uis (I : Nat → Int32) (A : Nat → Nat → Int32) (tp : Nat) {u : Nat} (h : u < 2) : ab_is (cW I A tp) 2 (30 + 3 * u) = true := by
  rcases (show u = 0 ∨ u = 1 by omega) with rfl | rfl <;> rfl
theorem c_u0 (I : Nat → Int32) (A : Nat → Nat → Int32) (tp : Nat) {u : Nat} (h : u < 2) : ab_getR (cW I A tp) 2 (30 + 3 * u) 0 = some (31 + 3 * u) := by
  rcases (show u = 0 ∨ u = 1 by omega) with rfl | rfl <;> rfl
theorem c_u1 (I : Nat → Int32) (A : Nat → Nat → Int32) (tp : Nat) {u : Nat} (h : u < 2) : ab_getR (cW I A tp) 2 (30 + 3 * u) 1 = some (32 + 3 * u) := by
  rcases (show u = 0 ∨ u = 1 by omega) with rfl | rfl <;> rfl
theorem c_u2 (I : Nat → Int32) (A : Nat → Nat → Int32) (tp : Nat) {u : Nat} (h : u < 2) : ab_getI (cW I A tp) 2 (30 + 3 * u) 2 = some (I (5 + u)) := by
  rcases (show u = 0 ∨ u = 1 by omega) with rfl | rfl <;> rfl
theorem c_uA (I : Nat → Int32) (A : Nat → Nat → Int32) (tp : Nat) {u j : Nat} (h : u < 2) (hj : j < 50) : ab_ald (cW I A tp) (31 + 3 * u) (nI j) = some (A (31 + 3 * u) j) := by
  rcases (show u = 0 ∨ u = 1 by omega) with rfl | rfl
  · exact c_A31 I A tp hj
  · exact c_A34 I A tp hj
theorem c_uP (I : Nat → Int32) (A : Nat → Nat → Int32) (tp : Nat) {u j : Nat} (h : u < 2) (hj : j < 50) : ab_ald (cW I A tp) (32 + 3 * u) (nI j) = some (A (32 + 3 * u) j) := by
  rcases (show u = 0 ∨ u = 1 by omega) with rfl | rfl
  · exact c_A32 I A tp hj
  · exact c_A35 I A tp hj
theorem c_uS (I : Nat → Int32) (A : Nat → Nat → Int32) (tp : Nat) {u j : Nat} (v : Int32) (h : u < 2) (hj : j < 50) : ab_ast (cW I A tp) (32 + 3 * u) (nI j) v = some (cW I (up2 A (32 + 3 * u) j v) tp) := by
  rcases (show u = 0 ∨ u = 1 by omega) with rfl | rfl
  · exact c_S32 I A tp v hj
  · exact c_S35 I A tp v hj
/-- the steps code 0 .. ℓ - 1 work val out on the pile's top -/
def RUN (u : Nat) (code : Nat → Int32) (ℓ : Nat) (val : Int32 → Int32 → Int32 → Int32) : Prop := ∀ (I : Nat → Int32) (A : Nat → Nat → Int32) (tp : Nat) (a b c : Int32) (τ i N K : Nat), (∀ q, q < ℓ → A (31 + 3 * u) (i + q) = code q) → i + ℓ ≤ N → I (5 + u) = nI N → N ≤ 50 → τ + ℓ ≤ 50 → ∃ pl, sX2_workOut_6 (K + ℓ) (30 + 3 * u) a b c (nI τ) (nI i) (cW I A tp) = sX2_workOut_6 K (30 + 3 * u) a b c (nI (τ + 1)) (nI (i + ℓ)) (cW I (upB A (32 + 3 * u) pl) tp) ∧ (∀ j, j < τ → pl j = A (32 + 3 * u) j) ∧ pl τ = val a b c
def cat (c1 : Nat → Int32) (l1 : Nat) (c2 : Nat → Int32) : Nat → Int32 := fun q => if q < l1 then c1 q else c2 (q - l1)
theorem up2_upB (A : Nat → Nat → Int32) (c i : Nat) (v : Int32) : up2 A c i v = upB A c (upd (A c) i v) := by
  funext k
  by_cases h : k = c
  · subst h; rw [up2_at, upB_at]
  · rw [up2_ne h, upB_ne h]
theorem run_num {u v : Nat} (hu : u < 2) (hv : v < 10000) : RUN u (fun _ => nI v) 1 (fun _ _ _ => nI v) := by
  intro I A tp a b c τ i N K hc hi hN hN5 hτ
  have h0 : A (31 + 3 * u) i = nI v := hc 0 (by decide)
  have hsub : ∀ k, k < 3 → ¬ (nI v - 10000 : Int32) = nI k := fun k hk e => by
    have := congrArg Int32.toInt e
    rw [Int32.toInt_sub, nI_toInt (by omega), nI_toInt (by omega), show (10000 : Int32).toInt = 10000 from rfl] at this
    simp only [Int.bmod] at this
    omega
  refine ⟨upd (A (32 + 3 * u)) τ (nI v), ?_, fun j hj => upd_ne (by omega), upd_same _ _ _⟩
  rw [sX2_workOut_6, c_u2 I A tp hu, Option.bind_some, hN, if_pos (nI_lt (by omega) (by omega)), c_u0 I A tp hu, Option.bind_some, c_uA I A tp hu (by omega), Option.bind_some, h0, if_pos (show nI v < 20000 from nI_lt (b := 20000) (by omega) (by decide)), if_pos (show nI τ < 50 from nI_lt (b := 50) (by omega) (by decide)), c_u1 I A tp hu, Option.bind_some, sX2_valueOf, if_neg (show ¬ (nI v - 10000 : Int32) = 0 from hsub 0 (by decide)), if_neg (show ¬ (nI v - 10000 : Int32) = 1 from hsub 1 (by decide)), if_neg (show ¬ (nI v - 10000 : Int32) = 2 from hsub 2 (by decide)), ab_b2_some, c_uS I A tp _ hu (by omega), Option.bind_some, sX2_workOut_145, nI_1, nI_1, up2_upB]
theorem run_name {u k : Nat} (hu : u < 2) (hk : k < 3) : RUN u (fun _ => nI (10000 + k)) 1 (fun a b c => if k = 0 then a else if k = 1 then b else c) := by
  intro I A tp a b c τ i N K hc hi hN hN5 hτ
  have h0 : A (31 + 3 * u) i = nI (10000 + k) := hc 0 (by decide)
  refine ⟨upd (A (32 + 3 * u)) τ (if k = 0 then a else if k = 1 then b else c), ?_, fun j hj => upd_ne (by omega), upd_same _ _ _⟩
  have hval : sX2_valueOf (nI (10000 + k)) a b c (cW I A tp) = some (if k = 0 then a else if k = 1 then b else c, cW I A tp) := by
    rcases (show k = 0 ∨ k = 1 ∨ k = 2 by omega) with rfl | rfl | rfl <;> rfl
  rw [sX2_workOut_6, c_u2 I A tp hu, Option.bind_some, hN, if_pos (nI_lt (by omega) (by omega)), c_u0 I A tp hu, Option.bind_some, c_uA I A tp hu (by omega), Option.bind_some, h0, if_pos (show nI (10000 + k) < 20000 from nI_lt (b := 20000) (by omega) (by decide)), if_pos (show nI τ < 50 from nI_lt (b := 50) (by omega) (by decide)), c_u1 I A tp hu, Option.bind_some, hval, ab_b2_some, c_uS I A tp _ hu (by omega), Option.bind_some, sX2_workOut_145, nI_1, nI_1, up2_upB]
theorem run_not {u ℓ : Nat} {code : Nat → Int32} {val : Int32 → Int32 → Int32 → Int32} (hu : u < 2) (h : RUN u code ℓ val) : RUN u (cat code ℓ (fun _ => 20033)) (ℓ + 1) (fun a b c => if val a b c = 0 then 1 else 0) := by
  intro I A tp a b c τ i N K hc hi hN hN5 hτ
  obtain ⟨pl, e, p1, p2⟩ := h I A tp a b c τ i N (K + 1) (fun q hq => by rw [hc q (by omega), cat, if_pos hq]) (by omega) hN hN5 (by omega)
  have hl := hc ℓ (by omega)
  rw [cat, if_neg (by omega)] at hl
  have e31 : upB A (32 + 3 * u) pl (31 + 3 * u) = A (31 + 3 * u) := upB_ne (by omega)
  refine ⟨upd pl τ (if val a b c = 0 then 1 else 0), ?_, fun j hj => by rw [upd_ne (by omega)]; exact p1 j hj, upd_same _ _ _⟩
  rw [show K + (ℓ + 1) = K + 1 + ℓ by omega, e, sX2_workOut_6, c_u2 _ _ _ hu, Option.bind_some, hN, if_pos (nI_lt (by omega) (by omega)), c_u0 _ _ _ hu, Option.bind_some, c_uA _ _ _ hu (by omega), Option.bind_some, e31, hl, if_neg (by decide), if_pos rfl, if_pos (show (0 : Int32) < nI (τ + 1) from nI_lt (a := 0) (by omega) (by omega)), c_u1 _ _ _ hu, Option.bind_some, Option.bind_some, show (nI (τ + 1) - 1 : Int32) = nI τ from nI_pred τ, c_uP _ _ _ hu (by omega), Option.bind_some, upB_at, p2]
  by_cases hv : val a b c = 0
  · rw [if_pos hv, if_pos hv, sX2_workOut_98, c_uS _ _ _ _ hu (by omega), Option.bind_some, sX2_workOut_145, nI_1, upB_up2]
    rfl
  · rw [if_neg hv, if_neg hv, sX2_workOut_98, c_uS _ _ _ _ hu (by omega), Option.bind_some, sX2_workOut_145, nI_1, upB_up2]
    rfl
theorem run_join {u l1 l2 : Nat} {c1 c2 : Nat → Int32} {v1 v2 : Int32 → Int32 → Int32 → Int32} {s : Int32} (hu : u < 2) (hs : lv s ≤ 4) (hl1 : 1 ≤ l1) (hl2 : 1 ≤ l2) (h1 : RUN u c1 l1 v1) (h2 : RUN u c2 l2 v2) : RUN u (cat (cat c1 l1 c2) (l1 + l2) (fun _ => 20000 + s)) (l1 + l2 + 1) (fun a b c => jn s (v1 a b c) (v2 a b c)) := by
  intro I A tp a b c τ i N K hc hi hN hN5 hτ
  obtain ⟨p, e, p1, p2⟩ := h1 I A tp a b c τ i N (K + 1 + l2) (fun q hq => by rw [hc q (by omega), cat, if_pos (by omega), cat, if_pos hq]) (by omega) hN hN5 (by omega)
  have e31 : upB A (32 + 3 * u) p (31 + 3 * u) = A (31 + 3 * u) := upB_ne (by omega)
  obtain ⟨p', e', p1', p2'⟩ := h2 I (upB A (32 + 3 * u) p) tp a b c (τ + 1) (i + l1) N (K + 1) (fun q hq => by rw [e31, show i + l1 + q = i + (l1 + q) by omega, hc (l1 + q) (by omega), cat, if_pos (by omega), cat, if_neg (by omega), show l1 + q - l1 = q by omega]) (by omega) hN hN5 (by omega)
  have hl := hc (l1 + l2) (by omega)
  rw [cat, if_neg (by omega)] at hl
  rw [upB_upB] at e'
  have f31 : upB A (32 + 3 * u) p' (31 + 3 * u) = A (31 + 3 * u) := upB_ne (by omega)
  have q0 : p' τ = v1 a b c := by rw [p1' τ (by omega), upB_at]; exact p2
  have hsg : ¬ (20000 + s : Int32) < 20000 ∧ ¬ (20000 + s : Int32) = 20033 ∧ (20000 + s - 20000 : Int32) = s := by
    have hc : s = 37 ∨ s = 38 ∨ s = 42 ∨ s = 43 ∨ s = 45 ∨ s = 47 ∨ s = 60 ∨ s = 61 ∨ s = 62 ∨ s = 124 := by
      apply Classical.byContradiction
      intro hn
      simp only [not_or] at hn
      rw [lv, if_neg hn.1, if_neg hn.2.1, if_neg hn.2.2.1, if_neg hn.2.2.2.1, if_neg hn.2.2.2.2.1, if_neg hn.2.2.2.2.2.1, if_neg hn.2.2.2.2.2.2.1, if_neg hn.2.2.2.2.2.2.2.1, if_neg hn.2.2.2.2.2.2.2.2.1, if_neg hn.2.2.2.2.2.2.2.2.2] at hs
      omega
    rcases hc with rfl | rfl | rfl | rfl | rfl | rfl | rfl | rfl | rfl | rfl <;> decide
  refine ⟨upd p' τ (jn s (v1 a b c) (v2 a b c)), ?_, fun j hj => by rw [upd_ne (by omega), p1' j (by omega), upB_at]; exact p1 j hj, upd_same _ _ _⟩
  rw [show K + (l1 + l2 + 1) = K + 1 + l2 + l1 by omega, e, e', sX2_workOut_6, c_u2 _ _ _ hu, Option.bind_some, hN, if_pos (nI_lt (by omega) (by omega)), c_u0 _ _ _ hu, Option.bind_some, c_uA _ _ _ hu (by omega), Option.bind_some, f31, show i + l1 + l2 = i + (l1 + l2) by omega, hl, if_neg hsg.1, if_neg hsg.2.1, if_pos (show (1 : Int32) < nI (τ + 1 + 1) from nI_lt (a := 1) (by omega) (by omega)), c_u1 _ _ _ hu, Option.bind_some, Option.bind_some, pk_m1, show (nI (τ + 1) - 1 : Int32) = nI τ from nI_pred τ, c_uP _ _ _ hu (by omega), Option.bind_some, Option.bind_some, c_uP _ _ _ hu (by omega), Option.bind_some, upB_at, q0, p2', hsg.2.2, c_joined, ab_b2_some, c_uS _ _ _ _ hu (by omega), Option.bind_some, sX2_workOut_145, nI_1, upB_up2]
  rfl
end RU
