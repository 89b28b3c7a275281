/-! ===== the two worlds, by their numbers ===== -/
def up2 (A : Nat → Nat → Int32) (c i : Nat) (v : Int32) : Nat → Nat → Int32 := fun k => if k = c then upd (A k) i v else A k
def upB (A : Nat → Nat → Int32) (c : Nat) (f : Nat → Int32) : Nat → Nat → Int32 := fun k => if k = c then f else A k
def prf (b n : Nat) : Nat → Option Nat := fun j => if j < n then some (b + j) else none
def prf2 (b n : Nat) : Nat → Option Nat := fun j => if j < n then some (b + 2 * j) else none
def prf3 (b n : Nat) : Nat → Option Nat := fun j => if j < n then some (b + 3 * j) else none
theorem upd_same (f : Nat → Int32) (k : Nat) (x : Int32) : upd f k x k = x := by simp [upd]
theorem upd_ne {f : Nat → Int32} {k j : Nat} {x : Int32} (h : j ≠ k) : upd f k x j = f j := by simp [upd, h]
theorem up2_ne {A : Nat → Nat → Int32} {c i k : Nat} {v : Int32} (h : k ≠ c) : up2 A c i v k = A k := by simp [up2, h]
theorem up2_at (A : Nat → Nat → Int32) (c i : Nat) (v : Int32) : up2 A c i v c = upd (A c) i v := by simp [up2]
theorem upB_ne {A : Nat → Nat → Int32} {c k : Nat} {f : Nat → Int32} (h : k ≠ c) : upB A c f k = A k := by simp [upB, h]
theorem upB_at (A : Nat → Nat → Int32) (c : Nat) (f : Nat → Int32) : upB A c f c = f := by simp [upB]
theorem ab_rd_nI {n j : Nat} {f : Nat → Int32} (h : j < n) (hn : n < 2 ^ 31) : ab_rd n f (nI j) = some (f j) := by
  have h1 : ¬ (nI j < 0 ∨ n ≤ (nI j).toNatClampNeg) := nI_in h hn
  rw [ab_rd, if_neg h1, nI_clamp (by omega)]
def mW (J : Nat → Int32) (B : Nat → Nat → Int32) : ab_W := [.inr (10, [.ref 1, .ref 2, .ref 3, .ref 4, .int (J 4), .int (J 5), .ref 5, .int (J 7), .int (J 8), .int (J 9), .int (J 10), .int (J 11), .int (J 12), .int (J 13), .int (J 14), .ref 6, .ref 7, .ref 8, .ref 9, .ref 10, .ref 11, .ref 12, .int (J 22), .int (J 23), .int (J 24), .int (J 25)]), .inl (0, 226, .inl (B 1)), .inl (0, 226, .inl (B 2)), .inl (0, 226, .inl (B 3)), .inl (0, 226, .inl (B 4)), .inl (0, 6, .inl (B 5)), .inl (0, 16, .inl (B 6)), .inl (0, 128, .inl (B 7)), .inl (0, 4, .inl (B 8)), .inl (0, 4, .inl (B 9)), .inl (0, 160, .inl (B 10)), .inl (0, 40, .inl (B 11)), .inl (0, 40, .inl (B 12))]
set_option maxRecDepth 100000 in
theorem m_is (J : Nat → Int32) (B : Nat → Nat → Int32) : ab_is (mW J B) 10 0 = true := rfl
set_option maxRecDepth 100000 in
theorem m_R0 (J : Nat → Int32) (B : Nat → Nat → Int32) : ab_getR (mW J B) 10 0 0 = some 1 := rfl
set_option maxRecDepth 100000 in
theorem m_R1 (J : Nat → Int32) (B : Nat → Nat → Int32) : ab_getR (mW J B) 10 0 1 = some 2 := rfl
set_option maxRecDepth 100000 in
theorem m_R2 (J : Nat → Int32) (B : Nat → Nat → Int32) : ab_getR (mW J B) 10 0 2 = some 3 := rfl
set_option maxRecDepth 100000 in
theorem m_R3 (J : Nat → Int32) (B : Nat → Nat → Int32) : ab_getR (mW J B) 10 0 3 = some 4 := rfl
set_option maxRecDepth 100000 in
theorem m_R6 (J : Nat → Int32) (B : Nat → Nat → Int32) : ab_getR (mW J B) 10 0 6 = some 5 := rfl
set_option maxRecDepth 100000 in
theorem m_R15 (J : Nat → Int32) (B : Nat → Nat → Int32) : ab_getR (mW J B) 10 0 15 = some 6 := rfl
set_option maxRecDepth 100000 in
theorem m_R16 (J : Nat → Int32) (B : Nat → Nat → Int32) : ab_getR (mW J B) 10 0 16 = some 7 := rfl
set_option maxRecDepth 100000 in
theorem m_R17 (J : Nat → Int32) (B : Nat → Nat → Int32) : ab_getR (mW J B) 10 0 17 = some 8 := rfl
set_option maxRecDepth 100000 in
theorem m_R18 (J : Nat → Int32) (B : Nat → Nat → Int32) : ab_getR (mW J B) 10 0 18 = some 9 := rfl
set_option maxRecDepth 100000 in
theorem m_R19 (J : Nat → Int32) (B : Nat → Nat → Int32) : ab_getR (mW J B) 10 0 19 = some 10 := rfl
set_option maxRecDepth 100000 in
theorem m_R20 (J : Nat → Int32) (B : Nat → Nat → Int32) : ab_getR (mW J B) 10 0 20 = some 11 := rfl
set_option maxRecDepth 100000 in
theorem m_R21 (J : Nat → Int32) (B : Nat → Nat → Int32) : ab_getR (mW J B) 10 0 21 = some 12 := rfl
set_option maxRecDepth 100000 in
theorem m_I4 (J : Nat → Int32) (B : Nat → Nat → Int32) : ab_getI (mW J B) 10 0 4 = some (J 4) := rfl
set_option maxRecDepth 100000 in
theorem m_P4 (J : Nat → Int32) (B : Nat → Nat → Int32) {v : Int32} (h : v = 0 ∨ v = 1) : ab_putZ (mW J B) 10 0 4 v = some (mW (upd J 4 v) B) := by
  rw [ab_putZ, if_pos h]
  rfl
set_option maxRecDepth 100000 in
theorem m_I5 (J : Nat → Int32) (B : Nat → Nat → Int32) : ab_getI (mW J B) 10 0 5 = some (J 5) := rfl
set_option maxRecDepth 100000 in
theorem m_P5 (J : Nat → Int32) (B : Nat → Nat → Int32) (v : Int32) : ab_putI (mW J B) 10 0 5 v = some (mW (upd J 5 v) B) := rfl
set_option maxRecDepth 100000 in
theorem m_I7 (J : Nat → Int32) (B : Nat → Nat → Int32) : ab_getI (mW J B) 10 0 7 = some (J 7) := rfl
set_option maxRecDepth 100000 in
theorem m_P7 (J : Nat → Int32) (B : Nat → Nat → Int32) (v : Int32) : ab_putI (mW J B) 10 0 7 v = some (mW (upd J 7 v) B) := rfl
set_option maxRecDepth 100000 in
theorem m_I8 (J : Nat → Int32) (B : Nat → Nat → Int32) : ab_getI (mW J B) 10 0 8 = some (J 8) := rfl
set_option maxRecDepth 100000 in
theorem m_P8 (J : Nat → Int32) (B : Nat → Nat → Int32) (v : Int32) : ab_putI (mW J B) 10 0 8 v = some (mW (upd J 8 v) B) := rfl
set_option maxRecDepth 100000 in
theorem m_I9 (J : Nat → Int32) (B : Nat → Nat → Int32) : ab_getI (mW J B) 10 0 9 = some (J 9) := rfl
set_option maxRecDepth 100000 in
theorem m_P9 (J : Nat → Int32) (B : Nat → Nat → Int32) (v : Int32) : ab_putI (mW J B) 10 0 9 v = some (mW (upd J 9 v) B) := rfl
set_option maxRecDepth 100000 in
theorem m_I10 (J : Nat → Int32) (B : Nat → Nat → Int32) : ab_getI (mW J B) 10 0 10 = some (J 10) := rfl
set_option maxRecDepth 100000 in
theorem m_P10 (J : Nat → Int32) (B : Nat → Nat → Int32) (v : Int32) : ab_putI (mW J B) 10 0 10 v = some (mW (upd J 10 v) B) := rfl
set_option maxRecDepth 100000 in
theorem m_I11 (J : Nat → Int32) (B : Nat → Nat → Int32) : ab_getI (mW J B) 10 0 11 = some (J 11) := rfl
set_option maxRecDepth 100000 in
theorem m_P11 (J : Nat → Int32) (B : Nat → Nat → Int32) (v : Int32) : ab_putI (mW J B) 10 0 11 v = some (mW (upd J 11 v) B) := rfl
set_option maxRecDepth 100000 in
theorem m_I12 (J : Nat → Int32) (B : Nat → Nat → Int32) : ab_getI (mW J B) 10 0 12 = some (J 12) := rfl
set_option maxRecDepth 100000 in
theorem m_P12 (J : Nat → Int32) (B : Nat → Nat → Int32) (v : Int32) : ab_putI (mW J B) 10 0 12 v = some (mW (upd J 12 v) B) := rfl
set_option maxRecDepth 100000 in
theorem m_I13 (J : Nat → Int32) (B : Nat → Nat → Int32) : ab_getI (mW J B) 10 0 13 = some (J 13) := rfl
set_option maxRecDepth 100000 in
theorem m_P13 (J : Nat → Int32) (B : Nat → Nat → Int32) (v : Int32) : ab_putI (mW J B) 10 0 13 v = some (mW (upd J 13 v) B) := rfl
set_option maxRecDepth 100000 in
theorem m_I14 (J : Nat → Int32) (B : Nat → Nat → Int32) : ab_getI (mW J B) 10 0 14 = some (J 14) := rfl
set_option maxRecDepth 100000 in
theorem m_P14 (J : Nat → Int32) (B : Nat → Nat → Int32) {v : Int32} (h : v = 0 ∨ v = 1) : ab_putZ (mW J B) 10 0 14 v = some (mW (upd J 14 v) B) := by
  rw [ab_putZ, if_pos h]
  rfl
set_option maxRecDepth 100000 in
theorem m_I22 (J : Nat → Int32) (B : Nat → Nat → Int32) : ab_getI (mW J B) 10 0 22 = some (J 22) := rfl
set_option maxRecDepth 100000 in
theorem m_P22 (J : Nat → Int32) (B : Nat → Nat → Int32) (v : Int32) : ab_putI (mW J B) 10 0 22 v = some (mW (upd J 22 v) B) := rfl
set_option maxRecDepth 100000 in
theorem m_I23 (J : Nat → Int32) (B : Nat → Nat → Int32) : ab_getI (mW J B) 10 0 23 = some (J 23) := rfl
set_option maxRecDepth 100000 in
theorem m_P23 (J : Nat → Int32) (B : Nat → Nat → Int32) (v : Int32) : ab_putI (mW J B) 10 0 23 v = some (mW (upd J 23 v) B) := rfl
set_option maxRecDepth 100000 in
theorem m_I24 (J : Nat → Int32) (B : Nat → Nat → Int32) : ab_getI (mW J B) 10 0 24 = some (J 24) := rfl
set_option maxRecDepth 100000 in
theorem m_P24 (J : Nat → Int32) (B : Nat → Nat → Int32) (v : Int32) : ab_putI (mW J B) 10 0 24 v = some (mW (upd J 24 v) B) := rfl
set_option maxRecDepth 100000 in
theorem m_I25 (J : Nat → Int32) (B : Nat → Nat → Int32) : ab_getI (mW J B) 10 0 25 = some (J 25) := rfl
set_option maxRecDepth 100000 in
theorem m_P25 (J : Nat → Int32) (B : Nat → Nat → Int32) (v : Int32) : ab_putI (mW J B) 10 0 25 v = some (mW (upd J 25 v) B) := rfl
set_option maxRecDepth 100000 in
theorem m_L1 (J : Nat → Int32) (B : Nat → Nat → Int32) (i : Int32) : ab_ald (mW J B) 1 i = ab_rd 226 (B 1) i := rfl
set_option maxRecDepth 100000 in
theorem m_A1 (J : Nat → Int32) (B : Nat → Nat → Int32) {j : Nat} (h : j < 226) : ab_ald (mW J B) 1 (nI j) = some (B 1 j) := ab_rd_nI (n := 226) h (by decide)
set_option maxRecDepth 100000 in
theorem m_S1 (J : Nat → Int32) (B : Nat → Nat → Int32) {j : Nat} (v : Int32) (h : j < 226) : ab_ast (mW J B) 1 (nI j) v = some (mW J (up2 B 1 j v)) := by
  have h1 : ¬ (nI j < 0 ∨ 226 ≤ (nI j).toNatClampNeg) := nI_in h (by decide)
  show (if nI j < 0 ∨ 226 ≤ (nI j).toNatClampNeg then none else _) = _
  rw [if_neg h1, nI_clamp (by omega)]
  rfl
set_option maxRecDepth 100000 in
theorem m_L2 (J : Nat → Int32) (B : Nat → Nat → Int32) (i : Int32) : ab_ald (mW J B) 2 i = ab_rd 226 (B 2) i := rfl
set_option maxRecDepth 100000 in
theorem m_A2 (J : Nat → Int32) (B : Nat → Nat → Int32) {j : Nat} (h : j < 226) : ab_ald (mW J B) 2 (nI j) = some (B 2 j) := ab_rd_nI (n := 226) h (by decide)
set_option maxRecDepth 100000 in
theorem m_S2 (J : Nat → Int32) (B : Nat → Nat → Int32) {j : Nat} (v : Int32) (h : j < 226) : ab_ast (mW J B) 2 (nI j) v = some (mW J (up2 B 2 j v)) := by
  have h1 : ¬ (nI j < 0 ∨ 226 ≤ (nI j).toNatClampNeg) := nI_in h (by decide)
  show (if nI j < 0 ∨ 226 ≤ (nI j).toNatClampNeg then none else _) = _
  rw [if_neg h1, nI_clamp (by omega)]
  rfl
set_option maxRecDepth 100000 in
theorem m_L3 (J : Nat → Int32) (B : Nat → Nat → Int32) (i : Int32) : ab_ald (mW J B) 3 i = ab_rd 226 (B 3) i := rfl
set_option maxRecDepth 100000 in
theorem m_A3 (J : Nat → Int32) (B : Nat → Nat → Int32) {j : Nat} (h : j < 226) : ab_ald (mW J B) 3 (nI j) = some (B 3 j) := ab_rd_nI (n := 226) h (by decide)
set_option maxRecDepth 100000 in
theorem m_S3 (J : Nat → Int32) (B : Nat → Nat → Int32) {j : Nat} (v : Int32) (h : j < 226) : ab_ast (mW J B) 3 (nI j) v = some (mW J (up2 B 3 j v)) := by
  have h1 : ¬ (nI j < 0 ∨ 226 ≤ (nI j).toNatClampNeg) := nI_in h (by decide)
  show (if nI j < 0 ∨ 226 ≤ (nI j).toNatClampNeg then none else _) = _
  rw [if_neg h1, nI_clamp (by omega)]
  rfl
set_option maxRecDepth 100000 in
theorem m_L4 (J : Nat → Int32) (B : Nat → Nat → Int32) (i : Int32) : ab_ald (mW J B) 4 i = ab_rd 226 (B 4) i := rfl
set_option maxRecDepth 100000 in
theorem m_A4 (J : Nat → Int32) (B : Nat → Nat → Int32) {j : Nat} (h : j < 226) : ab_ald (mW J B) 4 (nI j) = some (B 4 j) := ab_rd_nI (n := 226) h (by decide)
set_option maxRecDepth 100000 in
theorem m_S4 (J : Nat → Int32) (B : Nat → Nat → Int32) {j : Nat} (v : Int32) (h : j < 226) : ab_ast (mW J B) 4 (nI j) v = some (mW J (up2 B 4 j v)) := by
  have h1 : ¬ (nI j < 0 ∨ 226 ≤ (nI j).toNatClampNeg) := nI_in h (by decide)
  show (if nI j < 0 ∨ 226 ≤ (nI j).toNatClampNeg then none else _) = _
  rw [if_neg h1, nI_clamp (by omega)]
  rfl
set_option maxRecDepth 100000 in
theorem m_L5 (J : Nat → Int32) (B : Nat → Nat → Int32) (i : Int32) : ab_ald (mW J B) 5 i = ab_rd 6 (B 5) i := rfl
set_option maxRecDepth 100000 in
theorem m_A5 (J : Nat → Int32) (B : Nat → Nat → Int32) {j : Nat} (h : j < 6) : ab_ald (mW J B) 5 (nI j) = some (B 5 j) := ab_rd_nI (n := 6) h (by decide)
set_option maxRecDepth 100000 in
theorem m_S5 (J : Nat → Int32) (B : Nat → Nat → Int32) {j : Nat} (v : Int32) (h : j < 6) : ab_ast (mW J B) 5 (nI j) v = some (mW J (up2 B 5 j v)) := by
  have h1 : ¬ (nI j < 0 ∨ 6 ≤ (nI j).toNatClampNeg) := nI_in h (by decide)
  show (if nI j < 0 ∨ 6 ≤ (nI j).toNatClampNeg then none else _) = _
  rw [if_neg h1, nI_clamp (by omega)]
  rfl
set_option maxRecDepth 100000 in
theorem m_L6 (J : Nat → Int32) (B : Nat → Nat → Int32) (i : Int32) : ab_ald (mW J B) 6 i = ab_rd 16 (B 6) i := rfl
set_option maxRecDepth 100000 in
theorem m_A6 (J : Nat → Int32) (B : Nat → Nat → Int32) {j : Nat} (h : j < 16) : ab_ald (mW J B) 6 (nI j) = some (B 6 j) := ab_rd_nI (n := 16) h (by decide)
set_option maxRecDepth 100000 in
theorem m_S6 (J : Nat → Int32) (B : Nat → Nat → Int32) {j : Nat} (v : Int32) (h : j < 16) : ab_ast (mW J B) 6 (nI j) v = some (mW J (up2 B 6 j v)) := by
  have h1 : ¬ (nI j < 0 ∨ 16 ≤ (nI j).toNatClampNeg) := nI_in h (by decide)
  show (if nI j < 0 ∨ 16 ≤ (nI j).toNatClampNeg then none else _) = _
  rw [if_neg h1, nI_clamp (by omega)]
  rfl
set_option maxRecDepth 100000 in
theorem m_L7 (J : Nat → Int32) (B : Nat → Nat → Int32) (i : Int32) : ab_ald (mW J B) 7 i = ab_rd 128 (B 7) i := rfl
set_option maxRecDepth 100000 in
theorem m_A7 (J : Nat → Int32) (B : Nat → Nat → Int32) {j : Nat} (h : j < 128) : ab_ald (mW J B) 7 (nI j) = some (B 7 j) := ab_rd_nI (n := 128) h (by decide)
set_option maxRecDepth 100000 in
theorem m_S7 (J : Nat → Int32) (B : Nat → Nat → Int32) {j : Nat} (v : Int32) (h : j < 128) : ab_ast (mW J B) 7 (nI j) v = some (mW J (up2 B 7 j v)) := by
  have h1 : ¬ (nI j < 0 ∨ 128 ≤ (nI j).toNatClampNeg) := nI_in h (by decide)
  show (if nI j < 0 ∨ 128 ≤ (nI j).toNatClampNeg then none else _) = _
  rw [if_neg h1, nI_clamp (by omega)]
  rfl
set_option maxRecDepth 100000 in
theorem m_L8 (J : Nat → Int32) (B : Nat → Nat → Int32) (i : Int32) : ab_ald (mW J B) 8 i = ab_rd 4 (B 8) i := rfl
set_option maxRecDepth 100000 in
theorem m_A8 (J : Nat → Int32) (B : Nat → Nat → Int32) {j : Nat} (h : j < 4) : ab_ald (mW J B) 8 (nI j) = some (B 8 j) := ab_rd_nI (n := 4) h (by decide)
set_option maxRecDepth 100000 in
theorem m_S8 (J : Nat → Int32) (B : Nat → Nat → Int32) {j : Nat} (v : Int32) (h : j < 4) : ab_ast (mW J B) 8 (nI j) v = some (mW J (up2 B 8 j v)) := by
  have h1 : ¬ (nI j < 0 ∨ 4 ≤ (nI j).toNatClampNeg) := nI_in h (by decide)
  show (if nI j < 0 ∨ 4 ≤ (nI j).toNatClampNeg then none else _) = _
  rw [if_neg h1, nI_clamp (by omega)]
  rfl
set_option maxRecDepth 100000 in
theorem m_L9 (J : Nat → Int32) (B : Nat → Nat → Int32) (i : Int32) : ab_ald (mW J B) 9 i = ab_rd 4 (B 9) i := rfl
set_option maxRecDepth 100000 in
theorem m_A9 (J : Nat → Int32) (B : Nat → Nat → Int32) {j : Nat} (h : j < 4) : ab_ald (mW J B) 9 (nI j) = some (B 9 j) := ab_rd_nI (n := 4) h (by decide)
set_option maxRecDepth 100000 in
theorem m_S9 (J : Nat → Int32) (B : Nat → Nat → Int32) {j : Nat} (v : Int32) (h : j < 4) : ab_ast (mW J B) 9 (nI j) v = some (mW J (up2 B 9 j v)) := by
  have h1 : ¬ (nI j < 0 ∨ 4 ≤ (nI j).toNatClampNeg) := nI_in h (by decide)
  show (if nI j < 0 ∨ 4 ≤ (nI j).toNatClampNeg then none else _) = _
  rw [if_neg h1, nI_clamp (by omega)]
  rfl
set_option maxRecDepth 100000 in
theorem m_L10 (J : Nat → Int32) (B : Nat → Nat → Int32) (i : Int32) : ab_ald (mW J B) 10 i = ab_rd 160 (B 10) i := rfl
set_option maxRecDepth 100000 in
theorem m_A10 (J : Nat → Int32) (B : Nat → Nat → Int32) {j : Nat} (h : j < 160) : ab_ald (mW J B) 10 (nI j) = some (B 10 j) := ab_rd_nI (n := 160) h (by decide)
set_option maxRecDepth 100000 in
theorem m_S10 (J : Nat → Int32) (B : Nat → Nat → Int32) {j : Nat} (v : Int32) (h : j < 160) : ab_ast (mW J B) 10 (nI j) v = some (mW J (up2 B 10 j v)) := by
  have h1 : ¬ (nI j < 0 ∨ 160 ≤ (nI j).toNatClampNeg) := nI_in h (by decide)
  show (if nI j < 0 ∨ 160 ≤ (nI j).toNatClampNeg then none else _) = _
  rw [if_neg h1, nI_clamp (by omega)]
  rfl
set_option maxRecDepth 100000 in
theorem m_L11 (J : Nat → Int32) (B : Nat → Nat → Int32) (i : Int32) : ab_ald (mW J B) 11 i = ab_rd 40 (B 11) i := rfl
set_option maxRecDepth 100000 in
theorem m_A11 (J : Nat → Int32) (B : Nat → Nat → Int32) {j : Nat} (h : j < 40) : ab_ald (mW J B) 11 (nI j) = some (B 11 j) := ab_rd_nI (n := 40) h (by decide)
set_option maxRecDepth 100000 in
theorem m_S11 (J : Nat → Int32) (B : Nat → Nat → Int32) {j : Nat} (v : Int32) (h : j < 40) : ab_ast (mW J B) 11 (nI j) v = some (mW J (up2 B 11 j v)) := by
  have h1 : ¬ (nI j < 0 ∨ 40 ≤ (nI j).toNatClampNeg) := nI_in h (by decide)
  show (if nI j < 0 ∨ 40 ≤ (nI j).toNatClampNeg then none else _) = _
  rw [if_neg h1, nI_clamp (by omega)]
  rfl
set_option maxRecDepth 100000 in
theorem m_L12 (J : Nat → Int32) (B : Nat → Nat → Int32) (i : Int32) : ab_ald (mW J B) 12 i = ab_rd 40 (B 12) i := rfl
set_option maxRecDepth 100000 in
theorem m_A12 (J : Nat → Int32) (B : Nat → Nat → Int32) {j : Nat} (h : j < 40) : ab_ald (mW J B) 12 (nI j) = some (B 12 j) := ab_rd_nI (n := 40) h (by decide)
set_option maxRecDepth 100000 in
theorem m_S12 (J : Nat → Int32) (B : Nat → Nat → Int32) {j : Nat} (v : Int32) (h : j < 40) : ab_ast (mW J B) 12 (nI j) v = some (mW J (up2 B 12 j v)) := by
  have h1 : ¬ (nI j < 0 ∨ 40 ≤ (nI j).toNatClampNeg) := nI_in h (by decide)
  show (if nI j < 0 ∨ 40 ≤ (nI j).toNatClampNeg then none else _) = _
  rw [if_neg h1, nI_clamp (by omega)]
  rfl
def cW (I : Nat → Int32) (A : Nat → Nat → Int32) (tp : Nat) : ab_W := [.inr (9, [.ref 1, .ref 2, .ref 11, .ref 17, .ref 36, .ref 55, .ref 58, .ref 63, .int (I 408)]), .inl (0, 6, .inl (A 1)), .inl (3, 4, .inr (prf2 3 4)), .inr (5, [.ref 4, .int (I 400), .int (I 404)]), .inl (0, 40, .inl (A 4)), .inr (5, [.ref 6, .int (I 401), .int (I 405)]), .inl (0, 40, .inl (A 6)), .inr (5, [.ref 8, .int (I 402), .int (I 406)]), .inl (0, 40, .inl (A 8)), .inr (5, [.ref 10, .int (I 403), .int (I 407)]), .inl (0, 40, .inl (A 10)), .inr (6, [.ref 12, .ref 13, .ref 14, .ref 15, .ref 16]), .inl (0, 128, .inl (A 12)), .inl (0, 128, .inl (A 13)), .inl (0, 16, .inl (A 14)), .inl (0, 128, .inl (A 15)), .inl (0, 128, .inl (A 16)), .inr (0, [.ref 18, .ref 19, .ref 20, .ref 21, .int (I 2), .int (I 0), .int (I 7), .int (I 3), .int (I 4), .int (I 1)]), .inl (1, 8, .inr (prf 22 8)), .inl (0, 50, .inl (A 19)), .inl (2, 2, .inr (prf3 30 2)), .inl (0, 20, .inl (A 21)), .inr (3, [.int (I 8), .int (I 9), .int (I 10), .int (I 11), .int (I 12), .int (I 13)]), .inr (3, [.int (I 14), .int (I 15), .int (I 16), .int (I 17), .int (I 18), .int (I 19)]), .inr (3, [.int (I 20), .int (I 21), .int (I 22), .int (I 23), .int (I 24), .int (I 25)]), .inr (3, [.int (I 26), .int (I 27), .int (I 28), .int (I 29), .int (I 30), .int (I 31)]), .inr (3, [.int (I 32), .int (I 33), .int (I 34), .int (I 35), .int (I 36), .int (I 37)]), .inr (3, [.int (I 38), .int (I 39), .int (I 40), .int (I 41), .int (I 42), .int (I 43)]), .inr (3, [.int (I 44), .int (I 45), .int (I 46), .int (I 47), .int (I 48), .int (I 49)]), .inr (3, [.int (I 50), .int (I 51), .int (I 52), .int (I 53), .int (I 54), .int (I 55)]), .inr (2, [.ref 31, .ref 32, .int (I 5)]), .inl (0, 50, .inl (A 31)), .inl (0, 50, .inl (A 32)), .inr (2, [.ref 34, .ref 35, .int (I 6)]), .inl (0, 50, .inl (A 34)), .inl (0, 50, .inl (A 35)), .inr (0, [.ref 37, .ref 38, .ref 39, .ref 40, .int (I 202), .int (I 200), .int (I 207), .int (I 203), .int (I 204), .int (I 201)]), .inl (1, 8, .inr (prf 41 8)), .inl (0, 50, .inl (A 38)), .inl (2, 2, .inr (prf3 49 2)), .inl (0, 20, .inl (A 40)), .inr (3, [.int (I 208), .int (I 209), .int (I 210), .int (I 211), .int (I 212), .int (I 213)]), .inr (3, [.int (I 214), .int (I 215), .int (I 216), .int (I 217), .int (I 218), .int (I 219)]), .inr (3, [.int (I 220), .int (I 221), .int (I 222), .int (I 223), .int (I 224), .int (I 225)]), .inr (3, [.int (I 226), .int (I 227), .int (I 228), .int (I 229), .int (I 230), .int (I 231)]), .inr (3, [.int (I 232), .int (I 233), .int (I 234), .int (I 235), .int (I 236), .int (I 237)]), .inr (3, [.int (I 238), .int (I 239), .int (I 240), .int (I 241), .int (I 242), .int (I 243)]), .inr (3, [.int (I 244), .int (I 245), .int (I 246), .int (I 247), .int (I 248), .int (I 249)]), .inr (3, [.int (I 250), .int (I 251), .int (I 252), .int (I 253), .int (I 254), .int (I 255)]), .inr (2, [.ref 50, .ref 51, .int (I 205)]), .inl (0, 50, .inl (A 50)), .inl (0, 50, .inl (A 51)), .inr (2, [.ref 53, .ref 54, .int (I 206)]), .inl (0, 50, .inl (A 53)), .inl (0, 50, .inl (A 54)), .inr (7, [.int (I 410), .int (I 411), .int (I 412), .int (I 413), .ref 56, .ref 57]), .inr (1, [.int (I 414), .int (I 415), .int (I 416), .int (I 417), .int (I 418)]), .inl (0, 20, .inl (A 57)), .inr (4, [.ref 59, .int (I 420), .ref tp, .int (I 421), .int (I 422)]), .inr (2, [.ref 60, .ref 61, .int (I 423)]), .inl (0, 50, .inl (A 60)), .inl (0, 50, .inl (A 61)), .inl (0, 0, .inl (A 62)), .inr (8, [.ref 64, .int (I 424), .int (I 425), .int (I 426), .int (I 427)]), .inl (0, 40, .inl (A 64))]
set_option maxRecDepth 100000 in
theorem c_is0 (I : Nat → Int32) (A : Nat → Nat → Int32) (tp : Nat) : ab_is (cW I A tp) 9 0 = true := rfl
set_option maxRecDepth 100000 in
theorem c_R0_0 (I : Nat → Int32) (A : Nat → Nat → Int32) (tp : Nat) : ab_getR (cW I A tp) 9 0 0 = some 1 := rfl
set_option maxRecDepth 100000 in
theorem c_R0_1 (I : Nat → Int32) (A : Nat → Nat → Int32) (tp : Nat) : ab_getR (cW I A tp) 9 0 1 = some 2 := rfl
set_option maxRecDepth 100000 in
theorem c_R0_2 (I : Nat → Int32) (A : Nat → Nat → Int32) (tp : Nat) : ab_getR (cW I A tp) 9 0 2 = some 11 := rfl
set_option maxRecDepth 100000 in
theorem c_R0_3 (I : Nat → Int32) (A : Nat → Nat → Int32) (tp : Nat) : ab_getR (cW I A tp) 9 0 3 = some 17 := rfl
set_option maxRecDepth 100000 in
theorem c_R0_4 (I : Nat → Int32) (A : Nat → Nat → Int32) (tp : Nat) : ab_getR (cW I A tp) 9 0 4 = some 36 := rfl
set_option maxRecDepth 100000 in
theorem c_R0_5 (I : Nat → Int32) (A : Nat → Nat → Int32) (tp : Nat) : ab_getR (cW I A tp) 9 0 5 = some 55 := rfl
set_option maxRecDepth 100000 in
theorem c_R0_6 (I : Nat → Int32) (A : Nat → Nat → Int32) (tp : Nat) : ab_getR (cW I A tp) 9 0 6 = some 58 := rfl
set_option maxRecDepth 100000 in
theorem c_R0_7 (I : Nat → Int32) (A : Nat → Nat → Int32) (tp : Nat) : ab_getR (cW I A tp) 9 0 7 = some 63 := rfl
set_option maxRecDepth 100000 in
theorem c_I0_8 (I : Nat → Int32) (A : Nat → Nat → Int32) (tp : Nat) : ab_getI (cW I A tp) 9 0 8 = some (I 408) := rfl
set_option maxRecDepth 100000 in
theorem c_P0_8 (I : Nat → Int32) (A : Nat → Nat → Int32) (tp : Nat) (v : Int32) : ab_putI (cW I A tp) 9 0 8 v = some (cW (upd I 408 v) A tp) := rfl
set_option maxRecDepth 100000 in
theorem c_L1 (I : Nat → Int32) (A : Nat → Nat → Int32) (tp : Nat) (i : Int32) : ab_ald (cW I A tp) 1 i = ab_rd 6 (A 1) i := rfl
set_option maxRecDepth 100000 in
theorem c_N1 (I : Nat → Int32) (A : Nat → Nat → Int32) (tp : Nat) : ab_len (cW I A tp) 1 = some (nI 6) := rfl
set_option maxRecDepth 100000 in
theorem c_A1 (I : Nat → Int32) (A : Nat → Nat → Int32) (tp : Nat) {j : Nat} (h : j < 6) : ab_ald (cW I A tp) 1 (nI j) = some (A 1 j) := ab_rd_nI (n := 6) h (by decide)
set_option maxRecDepth 100000 in
theorem c_S1 (I : Nat → Int32) (A : Nat → Nat → Int32) (tp : Nat) {j : Nat} (v : Int32) (h : j < 6) : ab_ast (cW I A tp) 1 (nI j) v = some (cW I (up2 A 1 j v) tp) := by
  have h1 : ¬ (nI j < 0 ∨ 6 ≤ (nI j).toNatClampNeg) := nI_in h (by decide)
  show (if nI j < 0 ∨ 6 ≤ (nI j).toNatClampNeg then none else _) = _
  rw [if_neg h1, nI_clamp (by omega)]
  rfl
set_option maxRecDepth 100000 in
theorem c_Q2 (I : Nat → Int32) (A : Nat → Nat → Int32) (tp : Nat) {j : Nat} (h : j < 4) : ab_rald (cW I A tp) 3 2 (nI j) = some (3 + 2 * j) := by
  have h1 : ¬ (nI j < 0 ∨ 4 ≤ (nI j).toNatClampNeg) := nI_in h (by decide)
  show (if nI j < 0 ∨ 4 ≤ (nI j).toNatClampNeg then none else prf2 3 4 (nI j).toNatClampNeg) = _
  rw [if_neg h1, nI_clamp (by omega)]
  simp [prf2, h]
set_option maxRecDepth 100000 in
theorem c_is3 (I : Nat → Int32) (A : Nat → Nat → Int32) (tp : Nat) : ab_is (cW I A tp) 5 3 = true := rfl
set_option maxRecDepth 100000 in
theorem c_R3_0 (I : Nat → Int32) (A : Nat → Nat → Int32) (tp : Nat) : ab_getR (cW I A tp) 5 3 0 = some 4 := rfl
set_option maxRecDepth 100000 in
theorem c_I3_1 (I : Nat → Int32) (A : Nat → Nat → Int32) (tp : Nat) : ab_getI (cW I A tp) 5 3 1 = some (I 400) := rfl
set_option maxRecDepth 100000 in
theorem c_P3_1 (I : Nat → Int32) (A : Nat → Nat → Int32) (tp : Nat) (v : Int32) : ab_putI (cW I A tp) 5 3 1 v = some (cW (upd I 400 v) A tp) := rfl
set_option maxRecDepth 100000 in
theorem c_I3_2 (I : Nat → Int32) (A : Nat → Nat → Int32) (tp : Nat) : ab_getI (cW I A tp) 5 3 2 = some (I 404) := rfl
set_option maxRecDepth 100000 in
theorem c_P3_2 (I : Nat → Int32) (A : Nat → Nat → Int32) (tp : Nat) (v : Int32) : ab_putI (cW I A tp) 5 3 2 v = some (cW (upd I 404 v) A tp) := rfl
set_option maxRecDepth 100000 in
theorem c_L4 (I : Nat → Int32) (A : Nat → Nat → Int32) (tp : Nat) (i : Int32) : ab_ald (cW I A tp) 4 i = ab_rd 40 (A 4) i := rfl
set_option maxRecDepth 100000 in
theorem c_N4 (I : Nat → Int32) (A : Nat → Nat → Int32) (tp : Nat) : ab_len (cW I A tp) 4 = some (nI 40) := rfl
set_option maxRecDepth 100000 in
theorem c_A4 (I : Nat → Int32) (A : Nat → Nat → Int32) (tp : Nat) {j : Nat} (h : j < 40) : ab_ald (cW I A tp) 4 (nI j) = some (A 4 j) := ab_rd_nI (n := 40) h (by decide)
set_option maxRecDepth 100000 in
theorem c_S4 (I : Nat → Int32) (A : Nat → Nat → Int32) (tp : Nat) {j : Nat} (v : Int32) (h : j < 40) : ab_ast (cW I A tp) 4 (nI j) v = some (cW I (up2 A 4 j v) tp) := by
  have h1 : ¬ (nI j < 0 ∨ 40 ≤ (nI j).toNatClampNeg) := nI_in h (by decide)
  show (if nI j < 0 ∨ 40 ≤ (nI j).toNatClampNeg then none else _) = _
  rw [if_neg h1, nI_clamp (by omega)]
  rfl
set_option maxRecDepth 100000 in
theorem c_is5 (I : Nat → Int32) (A : Nat → Nat → Int32) (tp : Nat) : ab_is (cW I A tp) 5 5 = true := rfl
set_option maxRecDepth 100000 in
theorem c_R5_0 (I : Nat → Int32) (A : Nat → Nat → Int32) (tp : Nat) : ab_getR (cW I A tp) 5 5 0 = some 6 := rfl
set_option maxRecDepth 100000 in
theorem c_I5_1 (I : Nat → Int32) (A : Nat → Nat → Int32) (tp : Nat) : ab_getI (cW I A tp) 5 5 1 = some (I 401) := rfl
set_option maxRecDepth 100000 in
theorem c_P5_1 (I : Nat → Int32) (A : Nat → Nat → Int32) (tp : Nat) (v : Int32) : ab_putI (cW I A tp) 5 5 1 v = some (cW (upd I 401 v) A tp) := rfl
set_option maxRecDepth 100000 in
theorem c_I5_2 (I : Nat → Int32) (A : Nat → Nat → Int32) (tp : Nat) : ab_getI (cW I A tp) 5 5 2 = some (I 405) := rfl
set_option maxRecDepth 100000 in
theorem c_P5_2 (I : Nat → Int32) (A : Nat → Nat → Int32) (tp : Nat) (v : Int32) : ab_putI (cW I A tp) 5 5 2 v = some (cW (upd I 405 v) A tp) := rfl
set_option maxRecDepth 100000 in
theorem c_L6 (I : Nat → Int32) (A : Nat → Nat → Int32) (tp : Nat) (i : Int32) : ab_ald (cW I A tp) 6 i = ab_rd 40 (A 6) i := rfl
set_option maxRecDepth 100000 in
theorem c_N6 (I : Nat → Int32) (A : Nat → Nat → Int32) (tp : Nat) : ab_len (cW I A tp) 6 = some (nI 40) := rfl
set_option maxRecDepth 100000 in
theorem c_A6 (I : Nat → Int32) (A : Nat → Nat → Int32) (tp : Nat) {j : Nat} (h : j < 40) : ab_ald (cW I A tp) 6 (nI j) = some (A 6 j) := ab_rd_nI (n := 40) h (by decide)
set_option maxRecDepth 100000 in
theorem c_S6 (I : Nat → Int32) (A : Nat → Nat → Int32) (tp : Nat) {j : Nat} (v : Int32) (h : j < 40) : ab_ast (cW I A tp) 6 (nI j) v = some (cW I (up2 A 6 j v) tp) := by
  have h1 : ¬ (nI j < 0 ∨ 40 ≤ (nI j).toNatClampNeg) := nI_in h (by decide)
  show (if nI j < 0 ∨ 40 ≤ (nI j).toNatClampNeg then none else _) = _
  rw [if_neg h1, nI_clamp (by omega)]
  rfl
set_option maxRecDepth 100000 in
theorem c_is7 (I : Nat → Int32) (A : Nat → Nat → Int32) (tp : Nat) : ab_is (cW I A tp) 5 7 = true := rfl
set_option maxRecDepth 100000 in
theorem c_R7_0 (I : Nat → Int32) (A : Nat → Nat → Int32) (tp : Nat) : ab_getR (cW I A tp) 5 7 0 = some 8 := rfl
set_option maxRecDepth 100000 in
theorem c_I7_1 (I : Nat → Int32) (A : Nat → Nat → Int32) (tp : Nat) : ab_getI (cW I A tp) 5 7 1 = some (I 402) := rfl
set_option maxRecDepth 100000 in
theorem c_P7_1 (I : Nat → Int32) (A : Nat → Nat → Int32) (tp : Nat) (v : Int32) : ab_putI (cW I A tp) 5 7 1 v = some (cW (upd I 402 v) A tp) := rfl
set_option maxRecDepth 100000 in
theorem c_I7_2 (I : Nat → Int32) (A : Nat → Nat → Int32) (tp : Nat) : ab_getI (cW I A tp) 5 7 2 = some (I 406) := rfl
set_option maxRecDepth 100000 in
theorem c_P7_2 (I : Nat → Int32) (A : Nat → Nat → Int32) (tp : Nat) (v : Int32) : ab_putI (cW I A tp) 5 7 2 v = some (cW (upd I 406 v) A tp) := rfl
set_option maxRecDepth 100000 in
theorem c_L8 (I : Nat → Int32) (A : Nat → Nat → Int32) (tp : Nat) (i : Int32) : ab_ald (cW I A tp) 8 i = ab_rd 40 (A 8) i := rfl
set_option maxRecDepth 100000 in
theorem c_N8 (I : Nat → Int32) (A : Nat → Nat → Int32) (tp : Nat) : ab_len (cW I A tp) 8 = some (nI 40) := rfl
set_option maxRecDepth 100000 in
theorem c_A8 (I : Nat → Int32) (A : Nat → Nat → Int32) (tp : Nat) {j : Nat} (h : j < 40) : ab_ald (cW I A tp) 8 (nI j) = some (A 8 j) := ab_rd_nI (n := 40) h (by decide)
set_option maxRecDepth 100000 in
theorem c_S8 (I : Nat → Int32) (A : Nat → Nat → Int32) (tp : Nat) {j : Nat} (v : Int32) (h : j < 40) : ab_ast (cW I A tp) 8 (nI j) v = some (cW I (up2 A 8 j v) tp) := by
  have h1 : ¬ (nI j < 0 ∨ 40 ≤ (nI j).toNatClampNeg) := nI_in h (by decide)
  show (if nI j < 0 ∨ 40 ≤ (nI j).toNatClampNeg then none else _) = _
  rw [if_neg h1, nI_clamp (by omega)]
  rfl
set_option maxRecDepth 100000 in
theorem c_is9 (I : Nat → Int32) (A : Nat → Nat → Int32) (tp : Nat) : ab_is (cW I A tp) 5 9 = true := rfl
set_option maxRecDepth 100000 in
theorem c_R9_0 (I : Nat → Int32) (A : Nat → Nat → Int32) (tp : Nat) : ab_getR (cW I A tp) 5 9 0 = some 10 := rfl
set_option maxRecDepth 100000 in
theorem c_I9_1 (I : Nat → Int32) (A : Nat → Nat → Int32) (tp : Nat) : ab_getI (cW I A tp) 5 9 1 = some (I 403) := rfl
set_option maxRecDepth 100000 in
theorem c_P9_1 (I : Nat → Int32) (A : Nat → Nat → Int32) (tp : Nat) (v : Int32) : ab_putI (cW I A tp) 5 9 1 v = some (cW (upd I 403 v) A tp) := rfl
set_option maxRecDepth 100000 in
theorem c_I9_2 (I : Nat → Int32) (A : Nat → Nat → Int32) (tp : Nat) : ab_getI (cW I A tp) 5 9 2 = some (I 407) := rfl
set_option maxRecDepth 100000 in
theorem c_P9_2 (I : Nat → Int32) (A : Nat → Nat → Int32) (tp : Nat) (v : Int32) : ab_putI (cW I A tp) 5 9 2 v = some (cW (upd I 407 v) A tp) := rfl
set_option maxRecDepth 100000 in
theorem c_L10 (I : Nat → Int32) (A : Nat → Nat → Int32) (tp : Nat) (i : Int32) : ab_ald (cW I A tp) 10 i = ab_rd 40 (A 10) i := rfl
set_option maxRecDepth 100000 in
theorem c_N10 (I : Nat → Int32) (A : Nat → Nat → Int32) (tp : Nat) : ab_len (cW I A tp) 10 = some (nI 40) := rfl
set_option maxRecDepth 100000 in
theorem c_A10 (I : Nat → Int32) (A : Nat → Nat → Int32) (tp : Nat) {j : Nat} (h : j < 40) : ab_ald (cW I A tp) 10 (nI j) = some (A 10 j) := ab_rd_nI (n := 40) h (by decide)
set_option maxRecDepth 100000 in
theorem c_S10 (I : Nat → Int32) (A : Nat → Nat → Int32) (tp : Nat) {j : Nat} (v : Int32) (h : j < 40) : ab_ast (cW I A tp) 10 (nI j) v = some (cW I (up2 A 10 j v) tp) := by
  have h1 : ¬ (nI j < 0 ∨ 40 ≤ (nI j).toNatClampNeg) := nI_in h (by decide)
  show (if nI j < 0 ∨ 40 ≤ (nI j).toNatClampNeg then none else _) = _
  rw [if_neg h1, nI_clamp (by omega)]
  rfl
set_option maxRecDepth 100000 in
theorem c_is11 (I : Nat → Int32) (A : Nat → Nat → Int32) (tp : Nat) : ab_is (cW I A tp) 6 11 = true := rfl
set_option maxRecDepth 100000 in
theorem c_R11_0 (I : Nat → Int32) (A : Nat → Nat → Int32) (tp : Nat) : ab_getR (cW I A tp) 6 11 0 = some 12 := rfl
set_option maxRecDepth 100000 in
theorem c_R11_1 (I : Nat → Int32) (A : Nat → Nat → Int32) (tp : Nat) : ab_getR (cW I A tp) 6 11 1 = some 13 := rfl
set_option maxRecDepth 100000 in
theorem c_R11_2 (I : Nat → Int32) (A : Nat → Nat → Int32) (tp : Nat) : ab_getR (cW I A tp) 6 11 2 = some 14 := rfl
set_option maxRecDepth 100000 in
theorem c_R11_3 (I : Nat → Int32) (A : Nat → Nat → Int32) (tp : Nat) : ab_getR (cW I A tp) 6 11 3 = some 15 := rfl
set_option maxRecDepth 100000 in
theorem c_R11_4 (I : Nat → Int32) (A : Nat → Nat → Int32) (tp : Nat) : ab_getR (cW I A tp) 6 11 4 = some 16 := rfl
set_option maxRecDepth 100000 in
theorem c_L12 (I : Nat → Int32) (A : Nat → Nat → Int32) (tp : Nat) (i : Int32) : ab_ald (cW I A tp) 12 i = ab_rd 128 (A 12) i := rfl
set_option maxRecDepth 100000 in
theorem c_N12 (I : Nat → Int32) (A : Nat → Nat → Int32) (tp : Nat) : ab_len (cW I A tp) 12 = some (nI 128) := rfl
set_option maxRecDepth 100000 in
theorem c_A12 (I : Nat → Int32) (A : Nat → Nat → Int32) (tp : Nat) {j : Nat} (h : j < 128) : ab_ald (cW I A tp) 12 (nI j) = some (A 12 j) := ab_rd_nI (n := 128) h (by decide)
set_option maxRecDepth 100000 in
theorem c_S12 (I : Nat → Int32) (A : Nat → Nat → Int32) (tp : Nat) {j : Nat} (v : Int32) (h : j < 128) : ab_ast (cW I A tp) 12 (nI j) v = some (cW I (up2 A 12 j v) tp) := by
  have h1 : ¬ (nI j < 0 ∨ 128 ≤ (nI j).toNatClampNeg) := nI_in h (by decide)
  show (if nI j < 0 ∨ 128 ≤ (nI j).toNatClampNeg then none else _) = _
  rw [if_neg h1, nI_clamp (by omega)]
  rfl
set_option maxRecDepth 100000 in
theorem c_L13 (I : Nat → Int32) (A : Nat → Nat → Int32) (tp : Nat) (i : Int32) : ab_ald (cW I A tp) 13 i = ab_rd 128 (A 13) i := rfl
set_option maxRecDepth 100000 in
theorem c_N13 (I : Nat → Int32) (A : Nat → Nat → Int32) (tp : Nat) : ab_len (cW I A tp) 13 = some (nI 128) := rfl
set_option maxRecDepth 100000 in
theorem c_A13 (I : Nat → Int32) (A : Nat → Nat → Int32) (tp : Nat) {j : Nat} (h : j < 128) : ab_ald (cW I A tp) 13 (nI j) = some (A 13 j) := ab_rd_nI (n := 128) h (by decide)
set_option maxRecDepth 100000 in
theorem c_S13 (I : Nat → Int32) (A : Nat → Nat → Int32) (tp : Nat) {j : Nat} (v : Int32) (h : j < 128) : ab_ast (cW I A tp) 13 (nI j) v = some (cW I (up2 A 13 j v) tp) := by
  have h1 : ¬ (nI j < 0 ∨ 128 ≤ (nI j).toNatClampNeg) := nI_in h (by decide)
  show (if nI j < 0 ∨ 128 ≤ (nI j).toNatClampNeg then none else _) = _
  rw [if_neg h1, nI_clamp (by omega)]
  rfl
set_option maxRecDepth 100000 in
theorem c_L14 (I : Nat → Int32) (A : Nat → Nat → Int32) (tp : Nat) (i : Int32) : ab_ald (cW I A tp) 14 i = ab_rd 16 (A 14) i := rfl
set_option maxRecDepth 100000 in
theorem c_N14 (I : Nat → Int32) (A : Nat → Nat → Int32) (tp : Nat) : ab_len (cW I A tp) 14 = some (nI 16) := rfl
set_option maxRecDepth 100000 in
theorem c_A14 (I : Nat → Int32) (A : Nat → Nat → Int32) (tp : Nat) {j : Nat} (h : j < 16) : ab_ald (cW I A tp) 14 (nI j) = some (A 14 j) := ab_rd_nI (n := 16) h (by decide)
set_option maxRecDepth 100000 in
theorem c_S14 (I : Nat → Int32) (A : Nat → Nat → Int32) (tp : Nat) {j : Nat} (v : Int32) (h : j < 16) : ab_ast (cW I A tp) 14 (nI j) v = some (cW I (up2 A 14 j v) tp) := by
  have h1 : ¬ (nI j < 0 ∨ 16 ≤ (nI j).toNatClampNeg) := nI_in h (by decide)
  show (if nI j < 0 ∨ 16 ≤ (nI j).toNatClampNeg then none else _) = _
  rw [if_neg h1, nI_clamp (by omega)]
  rfl
set_option maxRecDepth 100000 in
theorem c_L15 (I : Nat → Int32) (A : Nat → Nat → Int32) (tp : Nat) (i : Int32) : ab_ald (cW I A tp) 15 i = ab_rd 128 (A 15) i := rfl
set_option maxRecDepth 100000 in
theorem c_N15 (I : Nat → Int32) (A : Nat → Nat → Int32) (tp : Nat) : ab_len (cW I A tp) 15 = some (nI 128) := rfl
set_option maxRecDepth 100000 in
theorem c_A15 (I : Nat → Int32) (A : Nat → Nat → Int32) (tp : Nat) {j : Nat} (h : j < 128) : ab_ald (cW I A tp) 15 (nI j) = some (A 15 j) := ab_rd_nI (n := 128) h (by decide)
set_option maxRecDepth 100000 in
theorem c_S15 (I : Nat → Int32) (A : Nat → Nat → Int32) (tp : Nat) {j : Nat} (v : Int32) (h : j < 128) : ab_ast (cW I A tp) 15 (nI j) v = some (cW I (up2 A 15 j v) tp) := by
  have h1 : ¬ (nI j < 0 ∨ 128 ≤ (nI j).toNatClampNeg) := nI_in h (by decide)
  show (if nI j < 0 ∨ 128 ≤ (nI j).toNatClampNeg then none else _) = _
  rw [if_neg h1, nI_clamp (by omega)]
  rfl
set_option maxRecDepth 100000 in
theorem c_L16 (I : Nat → Int32) (A : Nat → Nat → Int32) (tp : Nat) (i : Int32) : ab_ald (cW I A tp) 16 i = ab_rd 128 (A 16) i := rfl
set_option maxRecDepth 100000 in
theorem c_N16 (I : Nat → Int32) (A : Nat → Nat → Int32) (tp : Nat) : ab_len (cW I A tp) 16 = some (nI 128) := rfl
set_option maxRecDepth 100000 in
theorem c_A16 (I : Nat → Int32) (A : Nat → Nat → Int32) (tp : Nat) {j : Nat} (h : j < 128) : ab_ald (cW I A tp) 16 (nI j) = some (A 16 j) := ab_rd_nI (n := 128) h (by decide)
set_option maxRecDepth 100000 in
theorem c_S16 (I : Nat → Int32) (A : Nat → Nat → Int32) (tp : Nat) {j : Nat} (v : Int32) (h : j < 128) : ab_ast (cW I A tp) 16 (nI j) v = some (cW I (up2 A 16 j v) tp) := by
  have h1 : ¬ (nI j < 0 ∨ 128 ≤ (nI j).toNatClampNeg) := nI_in h (by decide)
  show (if nI j < 0 ∨ 128 ≤ (nI j).toNatClampNeg then none else _) = _
  rw [if_neg h1, nI_clamp (by omega)]
  rfl
set_option maxRecDepth 100000 in
theorem c_is17 (I : Nat → Int32) (A : Nat → Nat → Int32) (tp : Nat) : ab_is (cW I A tp) 0 17 = true := rfl
set_option maxRecDepth 100000 in
theorem c_R17_0 (I : Nat → Int32) (A : Nat → Nat → Int32) (tp : Nat) : ab_getR (cW I A tp) 0 17 0 = some 18 := rfl
set_option maxRecDepth 100000 in
theorem c_R17_1 (I : Nat → Int32) (A : Nat → Nat → Int32) (tp : Nat) : ab_getR (cW I A tp) 0 17 1 = some 19 := rfl
set_option maxRecDepth 100000 in
theorem c_R17_2 (I : Nat → Int32) (A : Nat → Nat → Int32) (tp : Nat) : ab_getR (cW I A tp) 0 17 2 = some 20 := rfl
set_option maxRecDepth 100000 in
theorem c_R17_3 (I : Nat → Int32) (A : Nat → Nat → Int32) (tp : Nat) : ab_getR (cW I A tp) 0 17 3 = some 21 := rfl
set_option maxRecDepth 100000 in
theorem c_I17_4 (I : Nat → Int32) (A : Nat → Nat → Int32) (tp : Nat) : ab_getI (cW I A tp) 0 17 4 = some (I 2) := rfl
set_option maxRecDepth 100000 in
theorem c_P17_4 (I : Nat → Int32) (A : Nat → Nat → Int32) (tp : Nat) (v : Int32) : ab_putI (cW I A tp) 0 17 4 v = some (cW (upd I 2 v) A tp) := rfl
set_option maxRecDepth 100000 in
theorem c_I17_5 (I : Nat → Int32) (A : Nat → Nat → Int32) (tp : Nat) : ab_getI (cW I A tp) 0 17 5 = some (I 0) := rfl
set_option maxRecDepth 100000 in
theorem c_P17_5 (I : Nat → Int32) (A : Nat → Nat → Int32) (tp : Nat) (v : Int32) : ab_putI (cW I A tp) 0 17 5 v = some (cW (upd I 0 v) A tp) := rfl
set_option maxRecDepth 100000 in
theorem c_I17_6 (I : Nat → Int32) (A : Nat → Nat → Int32) (tp : Nat) : ab_getI (cW I A tp) 0 17 6 = some (I 7) := rfl
set_option maxRecDepth 100000 in
theorem c_P17_6 (I : Nat → Int32) (A : Nat → Nat → Int32) (tp : Nat) (v : Int32) : ab_putI (cW I A tp) 0 17 6 v = some (cW (upd I 7 v) A tp) := rfl
set_option maxRecDepth 100000 in
theorem c_I17_7 (I : Nat → Int32) (A : Nat → Nat → Int32) (tp : Nat) : ab_getI (cW I A tp) 0 17 7 = some (I 3) := rfl
set_option maxRecDepth 100000 in
theorem c_P17_7 (I : Nat → Int32) (A : Nat → Nat → Int32) (tp : Nat) (v : Int32) : ab_putI (cW I A tp) 0 17 7 v = some (cW (upd I 3 v) A tp) := rfl
set_option maxRecDepth 100000 in
theorem c_I17_8 (I : Nat → Int32) (A : Nat → Nat → Int32) (tp : Nat) : ab_getI (cW I A tp) 0 17 8 = some (I 4) := rfl
set_option maxRecDepth 100000 in
theorem c_P17_8 (I : Nat → Int32) (A : Nat → Nat → Int32) (tp : Nat) (v : Int32) : ab_putI (cW I A tp) 0 17 8 v = some (cW (upd I 4 v) A tp) := rfl
set_option maxRecDepth 100000 in
theorem c_I17_9 (I : Nat → Int32) (A : Nat → Nat → Int32) (tp : Nat) : ab_getI (cW I A tp) 0 17 9 = some (I 1) := rfl
set_option maxRecDepth 100000 in
theorem c_P17_9 (I : Nat → Int32) (A : Nat → Nat → Int32) (tp : Nat) (v : Int32) : ab_putI (cW I A tp) 0 17 9 v = some (cW (upd I 1 v) A tp) := rfl
set_option maxRecDepth 100000 in
theorem c_Q18 (I : Nat → Int32) (A : Nat → Nat → Int32) (tp : Nat) {j : Nat} (h : j < 8) : ab_rald (cW I A tp) 1 18 (nI j) = some (22 + j) := by
  have h1 : ¬ (nI j < 0 ∨ 8 ≤ (nI j).toNatClampNeg) := nI_in h (by decide)
  show (if nI j < 0 ∨ 8 ≤ (nI j).toNatClampNeg then none else prf 22 8 (nI j).toNatClampNeg) = _
  rw [if_neg h1, nI_clamp (by omega)]
  simp [prf, h]
set_option maxRecDepth 100000 in
theorem c_L19 (I : Nat → Int32) (A : Nat → Nat → Int32) (tp : Nat) (i : Int32) : ab_ald (cW I A tp) 19 i = ab_rd 50 (A 19) i := rfl
set_option maxRecDepth 100000 in
theorem c_N19 (I : Nat → Int32) (A : Nat → Nat → Int32) (tp : Nat) : ab_len (cW I A tp) 19 = some (nI 50) := rfl
set_option maxRecDepth 100000 in
theorem c_A19 (I : Nat → Int32) (A : Nat → Nat → Int32) (tp : Nat) {j : Nat} (h : j < 50) : ab_ald (cW I A tp) 19 (nI j) = some (A 19 j) := ab_rd_nI (n := 50) h (by decide)
set_option maxRecDepth 100000 in
theorem c_S19 (I : Nat → Int32) (A : Nat → Nat → Int32) (tp : Nat) {j : Nat} (v : Int32) (h : j < 50) : ab_ast (cW I A tp) 19 (nI j) v = some (cW I (up2 A 19 j v) tp) := by
  have h1 : ¬ (nI j < 0 ∨ 50 ≤ (nI j).toNatClampNeg) := nI_in h (by decide)
  show (if nI j < 0 ∨ 50 ≤ (nI j).toNatClampNeg then none else _) = _
  rw [if_neg h1, nI_clamp (by omega)]
  rfl
set_option maxRecDepth 100000 in
theorem c_Q20 (I : Nat → Int32) (A : Nat → Nat → Int32) (tp : Nat) {j : Nat} (h : j < 2) : ab_rald (cW I A tp) 2 20 (nI j) = some (30 + 3 * j) := by
  have h1 : ¬ (nI j < 0 ∨ 2 ≤ (nI j).toNatClampNeg) := nI_in h (by decide)
  show (if nI j < 0 ∨ 2 ≤ (nI j).toNatClampNeg then none else prf3 30 2 (nI j).toNatClampNeg) = _
  rw [if_neg h1, nI_clamp (by omega)]
  simp [prf3, h]
set_option maxRecDepth 100000 in
theorem c_L21 (I : Nat → Int32) (A : Nat → Nat → Int32) (tp : Nat) (i : Int32) : ab_ald (cW I A tp) 21 i = ab_rd 20 (A 21) i := rfl
set_option maxRecDepth 100000 in
theorem c_N21 (I : Nat → Int32) (A : Nat → Nat → Int32) (tp : Nat) : ab_len (cW I A tp) 21 = some (nI 20) := rfl
set_option maxRecDepth 100000 in
theorem c_A21 (I : Nat → Int32) (A : Nat → Nat → Int32) (tp : Nat) {j : Nat} (h : j < 20) : ab_ald (cW I A tp) 21 (nI j) = some (A 21 j) := ab_rd_nI (n := 20) h (by decide)
set_option maxRecDepth 100000 in
theorem c_S21 (I : Nat → Int32) (A : Nat → Nat → Int32) (tp : Nat) {j : Nat} (v : Int32) (h : j < 20) : ab_ast (cW I A tp) 21 (nI j) v = some (cW I (up2 A 21 j v) tp) := by
  have h1 : ¬ (nI j < 0 ∨ 20 ≤ (nI j).toNatClampNeg) := nI_in h (by decide)
  show (if nI j < 0 ∨ 20 ≤ (nI j).toNatClampNeg then none else _) = _
  rw [if_neg h1, nI_clamp (by omega)]
  rfl
set_option maxRecDepth 100000 in
theorem c_is30 (I : Nat → Int32) (A : Nat → Nat → Int32) (tp : Nat) : ab_is (cW I A tp) 2 30 = true := rfl
set_option maxRecDepth 100000 in
theorem c_R30_0 (I : Nat → Int32) (A : Nat → Nat → Int32) (tp : Nat) : ab_getR (cW I A tp) 2 30 0 = some 31 := rfl
set_option maxRecDepth 100000 in
theorem c_R30_1 (I : Nat → Int32) (A : Nat → Nat → Int32) (tp : Nat) : ab_getR (cW I A tp) 2 30 1 = some 32 := rfl
set_option maxRecDepth 100000 in
theorem c_I30_2 (I : Nat → Int32) (A : Nat → Nat → Int32) (tp : Nat) : ab_getI (cW I A tp) 2 30 2 = some (I 5) := rfl
set_option maxRecDepth 100000 in
theorem c_P30_2 (I : Nat → Int32) (A : Nat → Nat → Int32) (tp : Nat) (v : Int32) : ab_putI (cW I A tp) 2 30 2 v = some (cW (upd I 5 v) A tp) := rfl
set_option maxRecDepth 100000 in
theorem c_L31 (I : Nat → Int32) (A : Nat → Nat → Int32) (tp : Nat) (i : Int32) : ab_ald (cW I A tp) 31 i = ab_rd 50 (A 31) i := rfl
set_option maxRecDepth 100000 in
theorem c_N31 (I : Nat → Int32) (A : Nat → Nat → Int32) (tp : Nat) : ab_len (cW I A tp) 31 = some (nI 50) := rfl
set_option maxRecDepth 100000 in
theorem c_A31 (I : Nat → Int32) (A : Nat → Nat → Int32) (tp : Nat) {j : Nat} (h : j < 50) : ab_ald (cW I A tp) 31 (nI j) = some (A 31 j) := ab_rd_nI (n := 50) h (by decide)
set_option maxRecDepth 100000 in
theorem c_S31 (I : Nat → Int32) (A : Nat → Nat → Int32) (tp : Nat) {j : Nat} (v : Int32) (h : j < 50) : ab_ast (cW I A tp) 31 (nI j) v = some (cW I (up2 A 31 j v) tp) := by
  have h1 : ¬ (nI j < 0 ∨ 50 ≤ (nI j).toNatClampNeg) := nI_in h (by decide)
  show (if nI j < 0 ∨ 50 ≤ (nI j).toNatClampNeg then none else _) = _
  rw [if_neg h1, nI_clamp (by omega)]
  rfl
set_option maxRecDepth 100000 in
theorem c_L32 (I : Nat → Int32) (A : Nat → Nat → Int32) (tp : Nat) (i : Int32) : ab_ald (cW I A tp) 32 i = ab_rd 50 (A 32) i := rfl
set_option maxRecDepth 100000 in
theorem c_N32 (I : Nat → Int32) (A : Nat → Nat → Int32) (tp : Nat) : ab_len (cW I A tp) 32 = some (nI 50) := rfl
set_option maxRecDepth 100000 in
theorem c_A32 (I : Nat → Int32) (A : Nat → Nat → Int32) (tp : Nat) {j : Nat} (h : j < 50) : ab_ald (cW I A tp) 32 (nI j) = some (A 32 j) := ab_rd_nI (n := 50) h (by decide)
set_option maxRecDepth 100000 in
theorem c_S32 (I : Nat → Int32) (A : Nat → Nat → Int32) (tp : Nat) {j : Nat} (v : Int32) (h : j < 50) : ab_ast (cW I A tp) 32 (nI j) v = some (cW I (up2 A 32 j v) tp) := by
  have h1 : ¬ (nI j < 0 ∨ 50 ≤ (nI j).toNatClampNeg) := nI_in h (by decide)
  show (if nI j < 0 ∨ 50 ≤ (nI j).toNatClampNeg then none else _) = _
  rw [if_neg h1, nI_clamp (by omega)]
  rfl
set_option maxRecDepth 100000 in
theorem c_is33 (I : Nat → Int32) (A : Nat → Nat → Int32) (tp : Nat) : ab_is (cW I A tp) 2 33 = true := rfl
set_option maxRecDepth 100000 in
theorem c_R33_0 (I : Nat → Int32) (A : Nat → Nat → Int32) (tp : Nat) : ab_getR (cW I A tp) 2 33 0 = some 34 := rfl
set_option maxRecDepth 100000 in
theorem c_R33_1 (I : Nat → Int32) (A : Nat → Nat → Int32) (tp : Nat) : ab_getR (cW I A tp) 2 33 1 = some 35 := rfl
set_option maxRecDepth 100000 in
theorem c_I33_2 (I : Nat → Int32) (A : Nat → Nat → Int32) (tp : Nat) : ab_getI (cW I A tp) 2 33 2 = some (I 6) := rfl
set_option maxRecDepth 100000 in
theorem c_P33_2 (I : Nat → Int32) (A : Nat → Nat → Int32) (tp : Nat) (v : Int32) : ab_putI (cW I A tp) 2 33 2 v = some (cW (upd I 6 v) A tp) := rfl
set_option maxRecDepth 100000 in
theorem c_L34 (I : Nat → Int32) (A : Nat → Nat → Int32) (tp : Nat) (i : Int32) : ab_ald (cW I A tp) 34 i = ab_rd 50 (A 34) i := rfl
set_option maxRecDepth 100000 in
theorem c_N34 (I : Nat → Int32) (A : Nat → Nat → Int32) (tp : Nat) : ab_len (cW I A tp) 34 = some (nI 50) := rfl
set_option maxRecDepth 100000 in
theorem c_A34 (I : Nat → Int32) (A : Nat → Nat → Int32) (tp : Nat) {j : Nat} (h : j < 50) : ab_ald (cW I A tp) 34 (nI j) = some (A 34 j) := ab_rd_nI (n := 50) h (by decide)
set_option maxRecDepth 100000 in
theorem c_S34 (I : Nat → Int32) (A : Nat → Nat → Int32) (tp : Nat) {j : Nat} (v : Int32) (h : j < 50) : ab_ast (cW I A tp) 34 (nI j) v = some (cW I (up2 A 34 j v) tp) := by
  have h1 : ¬ (nI j < 0 ∨ 50 ≤ (nI j).toNatClampNeg) := nI_in h (by decide)
  show (if nI j < 0 ∨ 50 ≤ (nI j).toNatClampNeg then none else _) = _
  rw [if_neg h1, nI_clamp (by omega)]
  rfl
set_option maxRecDepth 100000 in
theorem c_L35 (I : Nat → Int32) (A : Nat → Nat → Int32) (tp : Nat) (i : Int32) : ab_ald (cW I A tp) 35 i = ab_rd 50 (A 35) i := rfl
set_option maxRecDepth 100000 in
theorem c_N35 (I : Nat → Int32) (A : Nat → Nat → Int32) (tp : Nat) : ab_len (cW I A tp) 35 = some (nI 50) := rfl
set_option maxRecDepth 100000 in
theorem c_A35 (I : Nat → Int32) (A : Nat → Nat → Int32) (tp : Nat) {j : Nat} (h : j < 50) : ab_ald (cW I A tp) 35 (nI j) = some (A 35 j) := ab_rd_nI (n := 50) h (by decide)
set_option maxRecDepth 100000 in
theorem c_S35 (I : Nat → Int32) (A : Nat → Nat → Int32) (tp : Nat) {j : Nat} (v : Int32) (h : j < 50) : ab_ast (cW I A tp) 35 (nI j) v = some (cW I (up2 A 35 j v) tp) := by
  have h1 : ¬ (nI j < 0 ∨ 50 ≤ (nI j).toNatClampNeg) := nI_in h (by decide)
  show (if nI j < 0 ∨ 50 ≤ (nI j).toNatClampNeg then none else _) = _
  rw [if_neg h1, nI_clamp (by omega)]
  rfl
set_option maxRecDepth 100000 in
theorem c_is36 (I : Nat → Int32) (A : Nat → Nat → Int32) (tp : Nat) : ab_is (cW I A tp) 0 36 = true := rfl
set_option maxRecDepth 100000 in
theorem c_R36_0 (I : Nat → Int32) (A : Nat → Nat → Int32) (tp : Nat) : ab_getR (cW I A tp) 0 36 0 = some 37 := rfl
set_option maxRecDepth 100000 in
theorem c_R36_1 (I : Nat → Int32) (A : Nat → Nat → Int32) (tp : Nat) : ab_getR (cW I A tp) 0 36 1 = some 38 := rfl
set_option maxRecDepth 100000 in
theorem c_R36_2 (I : Nat → Int32) (A : Nat → Nat → Int32) (tp : Nat) : ab_getR (cW I A tp) 0 36 2 = some 39 := rfl
set_option maxRecDepth 100000 in
theorem c_R36_3 (I : Nat → Int32) (A : Nat → Nat → Int32) (tp : Nat) : ab_getR (cW I A tp) 0 36 3 = some 40 := rfl
set_option maxRecDepth 100000 in
theorem c_I36_4 (I : Nat → Int32) (A : Nat → Nat → Int32) (tp : Nat) : ab_getI (cW I A tp) 0 36 4 = some (I 202) := rfl
set_option maxRecDepth 100000 in
theorem c_P36_4 (I : Nat → Int32) (A : Nat → Nat → Int32) (tp : Nat) (v : Int32) : ab_putI (cW I A tp) 0 36 4 v = some (cW (upd I 202 v) A tp) := rfl
set_option maxRecDepth 100000 in
theorem c_I36_5 (I : Nat → Int32) (A : Nat → Nat → Int32) (tp : Nat) : ab_getI (cW I A tp) 0 36 5 = some (I 200) := rfl
set_option maxRecDepth 100000 in
theorem c_P36_5 (I : Nat → Int32) (A : Nat → Nat → Int32) (tp : Nat) (v : Int32) : ab_putI (cW I A tp) 0 36 5 v = some (cW (upd I 200 v) A tp) := rfl
set_option maxRecDepth 100000 in
theorem c_I36_6 (I : Nat → Int32) (A : Nat → Nat → Int32) (tp : Nat) : ab_getI (cW I A tp) 0 36 6 = some (I 207) := rfl
set_option maxRecDepth 100000 in
theorem c_P36_6 (I : Nat → Int32) (A : Nat → Nat → Int32) (tp : Nat) (v : Int32) : ab_putI (cW I A tp) 0 36 6 v = some (cW (upd I 207 v) A tp) := rfl
set_option maxRecDepth 100000 in
theorem c_I36_7 (I : Nat → Int32) (A : Nat → Nat → Int32) (tp : Nat) : ab_getI (cW I A tp) 0 36 7 = some (I 203) := rfl
set_option maxRecDepth 100000 in
theorem c_P36_7 (I : Nat → Int32) (A : Nat → Nat → Int32) (tp : Nat) (v : Int32) : ab_putI (cW I A tp) 0 36 7 v = some (cW (upd I 203 v) A tp) := rfl
set_option maxRecDepth 100000 in
theorem c_I36_8 (I : Nat → Int32) (A : Nat → Nat → Int32) (tp : Nat) : ab_getI (cW I A tp) 0 36 8 = some (I 204) := rfl
set_option maxRecDepth 100000 in
theorem c_P36_8 (I : Nat → Int32) (A : Nat → Nat → Int32) (tp : Nat) (v : Int32) : ab_putI (cW I A tp) 0 36 8 v = some (cW (upd I 204 v) A tp) := rfl
set_option maxRecDepth 100000 in
theorem c_I36_9 (I : Nat → Int32) (A : Nat → Nat → Int32) (tp : Nat) : ab_getI (cW I A tp) 0 36 9 = some (I 201) := rfl
set_option maxRecDepth 100000 in
theorem c_P36_9 (I : Nat → Int32) (A : Nat → Nat → Int32) (tp : Nat) (v : Int32) : ab_putI (cW I A tp) 0 36 9 v = some (cW (upd I 201 v) A tp) := rfl
set_option maxRecDepth 100000 in
theorem c_Q37 (I : Nat → Int32) (A : Nat → Nat → Int32) (tp : Nat) {j : Nat} (h : j < 8) : ab_rald (cW I A tp) 1 37 (nI j) = some (41 + j) := by
  have h1 : ¬ (nI j < 0 ∨ 8 ≤ (nI j).toNatClampNeg) := nI_in h (by decide)
  show (if nI j < 0 ∨ 8 ≤ (nI j).toNatClampNeg then none else prf 41 8 (nI j).toNatClampNeg) = _
  rw [if_neg h1, nI_clamp (by omega)]
  simp [prf, h]
set_option maxRecDepth 100000 in
theorem c_L38 (I : Nat → Int32) (A : Nat → Nat → Int32) (tp : Nat) (i : Int32) : ab_ald (cW I A tp) 38 i = ab_rd 50 (A 38) i := rfl
set_option maxRecDepth 100000 in
theorem c_N38 (I : Nat → Int32) (A : Nat → Nat → Int32) (tp : Nat) : ab_len (cW I A tp) 38 = some (nI 50) := rfl
set_option maxRecDepth 100000 in
theorem c_A38 (I : Nat → Int32) (A : Nat → Nat → Int32) (tp : Nat) {j : Nat} (h : j < 50) : ab_ald (cW I A tp) 38 (nI j) = some (A 38 j) := ab_rd_nI (n := 50) h (by decide)
set_option maxRecDepth 100000 in
theorem c_S38 (I : Nat → Int32) (A : Nat → Nat → Int32) (tp : Nat) {j : Nat} (v : Int32) (h : j < 50) : ab_ast (cW I A tp) 38 (nI j) v = some (cW I (up2 A 38 j v) tp) := by
  have h1 : ¬ (nI j < 0 ∨ 50 ≤ (nI j).toNatClampNeg) := nI_in h (by decide)
  show (if nI j < 0 ∨ 50 ≤ (nI j).toNatClampNeg then none else _) = _
  rw [if_neg h1, nI_clamp (by omega)]
  rfl
set_option maxRecDepth 100000 in
theorem c_Q39 (I : Nat → Int32) (A : Nat → Nat → Int32) (tp : Nat) {j : Nat} (h : j < 2) : ab_rald (cW I A tp) 2 39 (nI j) = some (49 + 3 * j) := by
  have h1 : ¬ (nI j < 0 ∨ 2 ≤ (nI j).toNatClampNeg) := nI_in h (by decide)
  show (if nI j < 0 ∨ 2 ≤ (nI j).toNatClampNeg then none else prf3 49 2 (nI j).toNatClampNeg) = _
  rw [if_neg h1, nI_clamp (by omega)]
  simp [prf3, h]
set_option maxRecDepth 100000 in
theorem c_L40 (I : Nat → Int32) (A : Nat → Nat → Int32) (tp : Nat) (i : Int32) : ab_ald (cW I A tp) 40 i = ab_rd 20 (A 40) i := rfl
set_option maxRecDepth 100000 in
theorem c_N40 (I : Nat → Int32) (A : Nat → Nat → Int32) (tp : Nat) : ab_len (cW I A tp) 40 = some (nI 20) := rfl
set_option maxRecDepth 100000 in
theorem c_A40 (I : Nat → Int32) (A : Nat → Nat → Int32) (tp : Nat) {j : Nat} (h : j < 20) : ab_ald (cW I A tp) 40 (nI j) = some (A 40 j) := ab_rd_nI (n := 20) h (by decide)
set_option maxRecDepth 100000 in
theorem c_S40 (I : Nat → Int32) (A : Nat → Nat → Int32) (tp : Nat) {j : Nat} (v : Int32) (h : j < 20) : ab_ast (cW I A tp) 40 (nI j) v = some (cW I (up2 A 40 j v) tp) := by
  have h1 : ¬ (nI j < 0 ∨ 20 ≤ (nI j).toNatClampNeg) := nI_in h (by decide)
  show (if nI j < 0 ∨ 20 ≤ (nI j).toNatClampNeg then none else _) = _
  rw [if_neg h1, nI_clamp (by omega)]
  rfl
set_option maxRecDepth 100000 in
theorem c_is49 (I : Nat → Int32) (A : Nat → Nat → Int32) (tp : Nat) : ab_is (cW I A tp) 2 49 = true := rfl
set_option maxRecDepth 100000 in
theorem c_R49_0 (I : Nat → Int32) (A : Nat → Nat → Int32) (tp : Nat) : ab_getR (cW I A tp) 2 49 0 = some 50 := rfl
set_option maxRecDepth 100000 in
theorem c_R49_1 (I : Nat → Int32) (A : Nat → Nat → Int32) (tp : Nat) : ab_getR (cW I A tp) 2 49 1 = some 51 := rfl
set_option maxRecDepth 100000 in
theorem c_I49_2 (I : Nat → Int32) (A : Nat → Nat → Int32) (tp : Nat) : ab_getI (cW I A tp) 2 49 2 = some (I 205) := rfl
set_option maxRecDepth 100000 in
theorem c_P49_2 (I : Nat → Int32) (A : Nat → Nat → Int32) (tp : Nat) (v : Int32) : ab_putI (cW I A tp) 2 49 2 v = some (cW (upd I 205 v) A tp) := rfl
set_option maxRecDepth 100000 in
theorem c_L50 (I : Nat → Int32) (A : Nat → Nat → Int32) (tp : Nat) (i : Int32) : ab_ald (cW I A tp) 50 i = ab_rd 50 (A 50) i := rfl
set_option maxRecDepth 100000 in
theorem c_N50 (I : Nat → Int32) (A : Nat → Nat → Int32) (tp : Nat) : ab_len (cW I A tp) 50 = some (nI 50) := rfl
set_option maxRecDepth 100000 in
theorem c_A50 (I : Nat → Int32) (A : Nat → Nat → Int32) (tp : Nat) {j : Nat} (h : j < 50) : ab_ald (cW I A tp) 50 (nI j) = some (A 50 j) := ab_rd_nI (n := 50) h (by decide)
set_option maxRecDepth 100000 in
theorem c_S50 (I : Nat → Int32) (A : Nat → Nat → Int32) (tp : Nat) {j : Nat} (v : Int32) (h : j < 50) : ab_ast (cW I A tp) 50 (nI j) v = some (cW I (up2 A 50 j v) tp) := by
  have h1 : ¬ (nI j < 0 ∨ 50 ≤ (nI j).toNatClampNeg) := nI_in h (by decide)
  show (if nI j < 0 ∨ 50 ≤ (nI j).toNatClampNeg then none else _) = _
  rw [if_neg h1, nI_clamp (by omega)]
  rfl
set_option maxRecDepth 100000 in
theorem c_L51 (I : Nat → Int32) (A : Nat → Nat → Int32) (tp : Nat) (i : Int32) : ab_ald (cW I A tp) 51 i = ab_rd 50 (A 51) i := rfl
set_option maxRecDepth 100000 in
theorem c_N51 (I : Nat → Int32) (A : Nat → Nat → Int32) (tp : Nat) : ab_len (cW I A tp) 51 = some (nI 50) := rfl
set_option maxRecDepth 100000 in
theorem c_A51 (I : Nat → Int32) (A : Nat → Nat → Int32) (tp : Nat) {j : Nat} (h : j < 50) : ab_ald (cW I A tp) 51 (nI j) = some (A 51 j) := ab_rd_nI (n := 50) h (by decide)
set_option maxRecDepth 100000 in
theorem c_S51 (I : Nat → Int32) (A : Nat → Nat → Int32) (tp : Nat) {j : Nat} (v : Int32) (h : j < 50) : ab_ast (cW I A tp) 51 (nI j) v = some (cW I (up2 A 51 j v) tp) := by
  have h1 : ¬ (nI j < 0 ∨ 50 ≤ (nI j).toNatClampNeg) := nI_in h (by decide)
  show (if nI j < 0 ∨ 50 ≤ (nI j).toNatClampNeg then none else _) = _
  rw [if_neg h1, nI_clamp (by omega)]
  rfl
set_option maxRecDepth 100000 in
theorem c_is52 (I : Nat → Int32) (A : Nat → Nat → Int32) (tp : Nat) : ab_is (cW I A tp) 2 52 = true := rfl
set_option maxRecDepth 100000 in
theorem c_R52_0 (I : Nat → Int32) (A : Nat → Nat → Int32) (tp : Nat) : ab_getR (cW I A tp) 2 52 0 = some 53 := rfl
set_option maxRecDepth 100000 in
theorem c_R52_1 (I : Nat → Int32) (A : Nat → Nat → Int32) (tp : Nat) : ab_getR (cW I A tp) 2 52 1 = some 54 := rfl
set_option maxRecDepth 100000 in
theorem c_I52_2 (I : Nat → Int32) (A : Nat → Nat → Int32) (tp : Nat) : ab_getI (cW I A tp) 2 52 2 = some (I 206) := rfl
set_option maxRecDepth 100000 in
theorem c_P52_2 (I : Nat → Int32) (A : Nat → Nat → Int32) (tp : Nat) (v : Int32) : ab_putI (cW I A tp) 2 52 2 v = some (cW (upd I 206 v) A tp) := rfl
set_option maxRecDepth 100000 in
theorem c_L53 (I : Nat → Int32) (A : Nat → Nat → Int32) (tp : Nat) (i : Int32) : ab_ald (cW I A tp) 53 i = ab_rd 50 (A 53) i := rfl
set_option maxRecDepth 100000 in
theorem c_N53 (I : Nat → Int32) (A : Nat → Nat → Int32) (tp : Nat) : ab_len (cW I A tp) 53 = some (nI 50) := rfl
set_option maxRecDepth 100000 in
theorem c_A53 (I : Nat → Int32) (A : Nat → Nat → Int32) (tp : Nat) {j : Nat} (h : j < 50) : ab_ald (cW I A tp) 53 (nI j) = some (A 53 j) := ab_rd_nI (n := 50) h (by decide)
set_option maxRecDepth 100000 in
theorem c_S53 (I : Nat → Int32) (A : Nat → Nat → Int32) (tp : Nat) {j : Nat} (v : Int32) (h : j < 50) : ab_ast (cW I A tp) 53 (nI j) v = some (cW I (up2 A 53 j v) tp) := by
  have h1 : ¬ (nI j < 0 ∨ 50 ≤ (nI j).toNatClampNeg) := nI_in h (by decide)
  show (if nI j < 0 ∨ 50 ≤ (nI j).toNatClampNeg then none else _) = _
  rw [if_neg h1, nI_clamp (by omega)]
  rfl
set_option maxRecDepth 100000 in
theorem c_L54 (I : Nat → Int32) (A : Nat → Nat → Int32) (tp : Nat) (i : Int32) : ab_ald (cW I A tp) 54 i = ab_rd 50 (A 54) i := rfl
set_option maxRecDepth 100000 in
theorem c_N54 (I : Nat → Int32) (A : Nat → Nat → Int32) (tp : Nat) : ab_len (cW I A tp) 54 = some (nI 50) := rfl
set_option maxRecDepth 100000 in
theorem c_A54 (I : Nat → Int32) (A : Nat → Nat → Int32) (tp : Nat) {j : Nat} (h : j < 50) : ab_ald (cW I A tp) 54 (nI j) = some (A 54 j) := ab_rd_nI (n := 50) h (by decide)
set_option maxRecDepth 100000 in
theorem c_S54 (I : Nat → Int32) (A : Nat → Nat → Int32) (tp : Nat) {j : Nat} (v : Int32) (h : j < 50) : ab_ast (cW I A tp) 54 (nI j) v = some (cW I (up2 A 54 j v) tp) := by
  have h1 : ¬ (nI j < 0 ∨ 50 ≤ (nI j).toNatClampNeg) := nI_in h (by decide)
  show (if nI j < 0 ∨ 50 ≤ (nI j).toNatClampNeg then none else _) = _
  rw [if_neg h1, nI_clamp (by omega)]
  rfl
set_option maxRecDepth 100000 in
theorem c_is55 (I : Nat → Int32) (A : Nat → Nat → Int32) (tp : Nat) : ab_is (cW I A tp) 7 55 = true := rfl
set_option maxRecDepth 100000 in
theorem c_I55_0 (I : Nat → Int32) (A : Nat → Nat → Int32) (tp : Nat) : ab_getI (cW I A tp) 7 55 0 = some (I 410) := rfl
set_option maxRecDepth 100000 in
theorem c_P55_0 (I : Nat → Int32) (A : Nat → Nat → Int32) (tp : Nat) (v : Int32) : ab_putI (cW I A tp) 7 55 0 v = some (cW (upd I 410 v) A tp) := rfl
set_option maxRecDepth 100000 in
theorem c_I55_1 (I : Nat → Int32) (A : Nat → Nat → Int32) (tp : Nat) : ab_getI (cW I A tp) 7 55 1 = some (I 411) := rfl
set_option maxRecDepth 100000 in
theorem c_P55_1 (I : Nat → Int32) (A : Nat → Nat → Int32) (tp : Nat) (v : Int32) : ab_putI (cW I A tp) 7 55 1 v = some (cW (upd I 411 v) A tp) := rfl
set_option maxRecDepth 100000 in
theorem c_I55_2 (I : Nat → Int32) (A : Nat → Nat → Int32) (tp : Nat) : ab_getI (cW I A tp) 7 55 2 = some (I 412) := rfl
set_option maxRecDepth 100000 in
theorem c_P55_2 (I : Nat → Int32) (A : Nat → Nat → Int32) (tp : Nat) (v : Int32) : ab_putI (cW I A tp) 7 55 2 v = some (cW (upd I 412 v) A tp) := rfl
set_option maxRecDepth 100000 in
theorem c_I55_3 (I : Nat → Int32) (A : Nat → Nat → Int32) (tp : Nat) : ab_getI (cW I A tp) 7 55 3 = some (I 413) := rfl
set_option maxRecDepth 100000 in
theorem c_P55_3 (I : Nat → Int32) (A : Nat → Nat → Int32) (tp : Nat) (v : Int32) : ab_putI (cW I A tp) 7 55 3 v = some (cW (upd I 413 v) A tp) := rfl
set_option maxRecDepth 100000 in
theorem c_R55_4 (I : Nat → Int32) (A : Nat → Nat → Int32) (tp : Nat) : ab_getR (cW I A tp) 7 55 4 = some 56 := rfl
set_option maxRecDepth 100000 in
theorem c_R55_5 (I : Nat → Int32) (A : Nat → Nat → Int32) (tp : Nat) : ab_getR (cW I A tp) 7 55 5 = some 57 := rfl
set_option maxRecDepth 100000 in
theorem c_is56 (I : Nat → Int32) (A : Nat → Nat → Int32) (tp : Nat) : ab_is (cW I A tp) 1 56 = true := rfl
set_option maxRecDepth 100000 in
theorem c_I56_0 (I : Nat → Int32) (A : Nat → Nat → Int32) (tp : Nat) : ab_getI (cW I A tp) 1 56 0 = some (I 414) := rfl
set_option maxRecDepth 100000 in
theorem c_P56_0 (I : Nat → Int32) (A : Nat → Nat → Int32) (tp : Nat) (v : Int32) : ab_putI (cW I A tp) 1 56 0 v = some (cW (upd I 414 v) A tp) := rfl
set_option maxRecDepth 100000 in
theorem c_I56_1 (I : Nat → Int32) (A : Nat → Nat → Int32) (tp : Nat) : ab_getI (cW I A tp) 1 56 1 = some (I 415) := rfl
set_option maxRecDepth 100000 in
theorem c_P56_1 (I : Nat → Int32) (A : Nat → Nat → Int32) (tp : Nat) (v : Int32) : ab_putI (cW I A tp) 1 56 1 v = some (cW (upd I 415 v) A tp) := rfl
set_option maxRecDepth 100000 in
theorem c_I56_2 (I : Nat → Int32) (A : Nat → Nat → Int32) (tp : Nat) : ab_getI (cW I A tp) 1 56 2 = some (I 416) := rfl
set_option maxRecDepth 100000 in
theorem c_P56_2 (I : Nat → Int32) (A : Nat → Nat → Int32) (tp : Nat) {v : Int32} (h : v = 0 ∨ v = 1) : ab_putZ (cW I A tp) 1 56 2 v = some (cW (upd I 416 v) A tp) := by
  rw [ab_putZ, if_pos h]
  rfl
set_option maxRecDepth 100000 in
theorem c_I56_3 (I : Nat → Int32) (A : Nat → Nat → Int32) (tp : Nat) : ab_getI (cW I A tp) 1 56 3 = some (I 417) := rfl
set_option maxRecDepth 100000 in
theorem c_P56_3 (I : Nat → Int32) (A : Nat → Nat → Int32) (tp : Nat) {v : Int32} (h : v = 0 ∨ v = 1) : ab_putZ (cW I A tp) 1 56 3 v = some (cW (upd I 417 v) A tp) := by
  rw [ab_putZ, if_pos h]
  rfl
set_option maxRecDepth 100000 in
theorem c_I56_4 (I : Nat → Int32) (A : Nat → Nat → Int32) (tp : Nat) : ab_getI (cW I A tp) 1 56 4 = some (I 418) := rfl
set_option maxRecDepth 100000 in
theorem c_P56_4 (I : Nat → Int32) (A : Nat → Nat → Int32) (tp : Nat) (v : Int32) : ab_putI (cW I A tp) 1 56 4 v = some (cW (upd I 418 v) A tp) := rfl
set_option maxRecDepth 100000 in
theorem c_L57 (I : Nat → Int32) (A : Nat → Nat → Int32) (tp : Nat) (i : Int32) : ab_ald (cW I A tp) 57 i = ab_rd 20 (A 57) i := rfl
set_option maxRecDepth 100000 in
theorem c_N57 (I : Nat → Int32) (A : Nat → Nat → Int32) (tp : Nat) : ab_len (cW I A tp) 57 = some (nI 20) := rfl
set_option maxRecDepth 100000 in
theorem c_A57 (I : Nat → Int32) (A : Nat → Nat → Int32) (tp : Nat) {j : Nat} (h : j < 20) : ab_ald (cW I A tp) 57 (nI j) = some (A 57 j) := ab_rd_nI (n := 20) h (by decide)
set_option maxRecDepth 100000 in
theorem c_S57 (I : Nat → Int32) (A : Nat → Nat → Int32) (tp : Nat) {j : Nat} (v : Int32) (h : j < 20) : ab_ast (cW I A tp) 57 (nI j) v = some (cW I (up2 A 57 j v) tp) := by
  have h1 : ¬ (nI j < 0 ∨ 20 ≤ (nI j).toNatClampNeg) := nI_in h (by decide)
  show (if nI j < 0 ∨ 20 ≤ (nI j).toNatClampNeg then none else _) = _
  rw [if_neg h1, nI_clamp (by omega)]
  rfl
set_option maxRecDepth 100000 in
theorem c_is58 (I : Nat → Int32) (A : Nat → Nat → Int32) (tp : Nat) : ab_is (cW I A tp) 4 58 = true := rfl
set_option maxRecDepth 100000 in
theorem c_R58_0 (I : Nat → Int32) (A : Nat → Nat → Int32) (tp : Nat) : ab_getR (cW I A tp) 4 58 0 = some 59 := rfl
set_option maxRecDepth 100000 in
theorem c_I58_1 (I : Nat → Int32) (A : Nat → Nat → Int32) (tp : Nat) : ab_getI (cW I A tp) 4 58 1 = some (I 420) := rfl
set_option maxRecDepth 100000 in
theorem c_P58_1 (I : Nat → Int32) (A : Nat → Nat → Int32) (tp : Nat) (v : Int32) : ab_putI (cW I A tp) 4 58 1 v = some (cW (upd I 420 v) A tp) := rfl
set_option maxRecDepth 100000 in
theorem c_R58_2 (I : Nat → Int32) (A : Nat → Nat → Int32) (tp : Nat) : ab_getR (cW I A tp) 4 58 2 = some tp := rfl
set_option maxRecDepth 100000 in
theorem c_I58_3 (I : Nat → Int32) (A : Nat → Nat → Int32) (tp : Nat) : ab_getI (cW I A tp) 4 58 3 = some (I 421) := rfl
set_option maxRecDepth 100000 in
theorem c_P58_3 (I : Nat → Int32) (A : Nat → Nat → Int32) (tp : Nat) (v : Int32) : ab_putI (cW I A tp) 4 58 3 v = some (cW (upd I 421 v) A tp) := rfl
set_option maxRecDepth 100000 in
theorem c_I58_4 (I : Nat → Int32) (A : Nat → Nat → Int32) (tp : Nat) : ab_getI (cW I A tp) 4 58 4 = some (I 422) := rfl
set_option maxRecDepth 100000 in
theorem c_P58_4 (I : Nat → Int32) (A : Nat → Nat → Int32) (tp : Nat) (v : Int32) : ab_putI (cW I A tp) 4 58 4 v = some (cW (upd I 422 v) A tp) := rfl
set_option maxRecDepth 100000 in
theorem c_PR58 (I : Nat → Int32) (A : Nat → Nat → Int32) (tp : Nat) (v : Nat) : ab_putR (cW I A tp) 4 58 2 v = some (cW I A v) := rfl
set_option maxRecDepth 100000 in
theorem c_is59 (I : Nat → Int32) (A : Nat → Nat → Int32) (tp : Nat) : ab_is (cW I A tp) 2 59 = true := rfl
set_option maxRecDepth 100000 in
theorem c_R59_0 (I : Nat → Int32) (A : Nat → Nat → Int32) (tp : Nat) : ab_getR (cW I A tp) 2 59 0 = some 60 := rfl
set_option maxRecDepth 100000 in
theorem c_R59_1 (I : Nat → Int32) (A : Nat → Nat → Int32) (tp : Nat) : ab_getR (cW I A tp) 2 59 1 = some 61 := rfl
set_option maxRecDepth 100000 in
theorem c_I59_2 (I : Nat → Int32) (A : Nat → Nat → Int32) (tp : Nat) : ab_getI (cW I A tp) 2 59 2 = some (I 423) := rfl
set_option maxRecDepth 100000 in
theorem c_P59_2 (I : Nat → Int32) (A : Nat → Nat → Int32) (tp : Nat) (v : Int32) : ab_putI (cW I A tp) 2 59 2 v = some (cW (upd I 423 v) A tp) := rfl
set_option maxRecDepth 100000 in
theorem c_L60 (I : Nat → Int32) (A : Nat → Nat → Int32) (tp : Nat) (i : Int32) : ab_ald (cW I A tp) 60 i = ab_rd 50 (A 60) i := rfl
set_option maxRecDepth 100000 in
theorem c_N60 (I : Nat → Int32) (A : Nat → Nat → Int32) (tp : Nat) : ab_len (cW I A tp) 60 = some (nI 50) := rfl
set_option maxRecDepth 100000 in
theorem c_A60 (I : Nat → Int32) (A : Nat → Nat → Int32) (tp : Nat) {j : Nat} (h : j < 50) : ab_ald (cW I A tp) 60 (nI j) = some (A 60 j) := ab_rd_nI (n := 50) h (by decide)
set_option maxRecDepth 100000 in
theorem c_S60 (I : Nat → Int32) (A : Nat → Nat → Int32) (tp : Nat) {j : Nat} (v : Int32) (h : j < 50) : ab_ast (cW I A tp) 60 (nI j) v = some (cW I (up2 A 60 j v) tp) := by
  have h1 : ¬ (nI j < 0 ∨ 50 ≤ (nI j).toNatClampNeg) := nI_in h (by decide)
  show (if nI j < 0 ∨ 50 ≤ (nI j).toNatClampNeg then none else _) = _
  rw [if_neg h1, nI_clamp (by omega)]
  rfl
set_option maxRecDepth 100000 in
theorem c_L61 (I : Nat → Int32) (A : Nat → Nat → Int32) (tp : Nat) (i : Int32) : ab_ald (cW I A tp) 61 i = ab_rd 50 (A 61) i := rfl
set_option maxRecDepth 100000 in
theorem c_N61 (I : Nat → Int32) (A : Nat → Nat → Int32) (tp : Nat) : ab_len (cW I A tp) 61 = some (nI 50) := rfl
set_option maxRecDepth 100000 in
theorem c_A61 (I : Nat → Int32) (A : Nat → Nat → Int32) (tp : Nat) {j : Nat} (h : j < 50) : ab_ald (cW I A tp) 61 (nI j) = some (A 61 j) := ab_rd_nI (n := 50) h (by decide)
set_option maxRecDepth 100000 in
theorem c_S61 (I : Nat → Int32) (A : Nat → Nat → Int32) (tp : Nat) {j : Nat} (v : Int32) (h : j < 50) : ab_ast (cW I A tp) 61 (nI j) v = some (cW I (up2 A 61 j v) tp) := by
  have h1 : ¬ (nI j < 0 ∨ 50 ≤ (nI j).toNatClampNeg) := nI_in h (by decide)
  show (if nI j < 0 ∨ 50 ≤ (nI j).toNatClampNeg then none else _) = _
  rw [if_neg h1, nI_clamp (by omega)]
  rfl
set_option maxRecDepth 100000 in
theorem c_L62 (I : Nat → Int32) (A : Nat → Nat → Int32) (tp : Nat) (i : Int32) : ab_ald (cW I A tp) 62 i = ab_rd 0 (A 62) i := rfl
set_option maxRecDepth 100000 in
theorem c_N62 (I : Nat → Int32) (A : Nat → Nat → Int32) (tp : Nat) : ab_len (cW I A tp) 62 = some (nI 0) := rfl
set_option maxRecDepth 100000 in
theorem c_is63 (I : Nat → Int32) (A : Nat → Nat → Int32) (tp : Nat) : ab_is (cW I A tp) 8 63 = true := rfl
set_option maxRecDepth 100000 in
theorem c_R63_0 (I : Nat → Int32) (A : Nat → Nat → Int32) (tp : Nat) : ab_getR (cW I A tp) 8 63 0 = some 64 := rfl
set_option maxRecDepth 100000 in
theorem c_I63_1 (I : Nat → Int32) (A : Nat → Nat → Int32) (tp : Nat) : ab_getI (cW I A tp) 8 63 1 = some (I 424) := rfl
set_option maxRecDepth 100000 in
theorem c_P63_1 (I : Nat → Int32) (A : Nat → Nat → Int32) (tp : Nat) (v : Int32) : ab_putI (cW I A tp) 8 63 1 v = some (cW (upd I 424 v) A tp) := rfl
set_option maxRecDepth 100000 in
theorem c_I63_2 (I : Nat → Int32) (A : Nat → Nat → Int32) (tp : Nat) : ab_getI (cW I A tp) 8 63 2 = some (I 425) := rfl
set_option maxRecDepth 100000 in
theorem c_P63_2 (I : Nat → Int32) (A : Nat → Nat → Int32) (tp : Nat) (v : Int32) : ab_putI (cW I A tp) 8 63 2 v = some (cW (upd I 425 v) A tp) := rfl
set_option maxRecDepth 100000 in
theorem c_I63_3 (I : Nat → Int32) (A : Nat → Nat → Int32) (tp : Nat) : ab_getI (cW I A tp) 8 63 3 = some (I 426) := rfl
set_option maxRecDepth 100000 in
theorem c_P63_3 (I : Nat → Int32) (A : Nat → Nat → Int32) (tp : Nat) (v : Int32) : ab_putI (cW I A tp) 8 63 3 v = some (cW (upd I 426 v) A tp) := rfl
set_option maxRecDepth 100000 in
theorem c_I63_4 (I : Nat → Int32) (A : Nat → Nat → Int32) (tp : Nat) : ab_getI (cW I A tp) 8 63 4 = some (I 427) := rfl
set_option maxRecDepth 100000 in
theorem c_P63_4 (I : Nat → Int32) (A : Nat → Nat → Int32) (tp : Nat) (v : Int32) : ab_putI (cW I A tp) 8 63 4 v = some (cW (upd I 427 v) A tp) := rfl
set_option maxRecDepth 100000 in
theorem c_L64 (I : Nat → Int32) (A : Nat → Nat → Int32) (tp : Nat) (i : Int32) : ab_ald (cW I A tp) 64 i = ab_rd 40 (A 64) i := rfl
set_option maxRecDepth 100000 in
theorem c_N64 (I : Nat → Int32) (A : Nat → Nat → Int32) (tp : Nat) : ab_len (cW I A tp) 64 = some (nI 40) := rfl
set_option maxRecDepth 100000 in
theorem c_A64 (I : Nat → Int32) (A : Nat → Nat → Int32) (tp : Nat) {j : Nat} (h : j < 40) : ab_ald (cW I A tp) 64 (nI j) = some (A 64 j) := ab_rd_nI (n := 40) h (by decide)
set_option maxRecDepth 100000 in
theorem c_S64 (I : Nat → Int32) (A : Nat → Nat → Int32) (tp : Nat) {j : Nat} (v : Int32) (h : j < 40) : ab_ast (cW I A tp) 64 (nI j) v = some (cW I (up2 A 64 j v) tp) := by
  have h1 : ¬ (nI j < 0 ∨ 40 ≤ (nI j).toNatClampNeg) := nI_in h (by decide)
  show (if nI j < 0 ∨ 40 ≤ (nI j).toNatClampNeg then none else _) = _
  rw [if_neg h1, nI_clamp (by omega)]
  rfl
set_option maxRecDepth 100000 in
theorem c_pis (I : Nat → Int32) (A : Nat → Nat → Int32) (tp : Nat) {j : Nat} (h : j < 8) : ab_is (cW I A tp) 3 (22 + j) = true := by
  rcases (show j = 0 ∨ j = 1 ∨ j = 2 ∨ j = 3 ∨ j = 4 ∨ j = 5 ∨ j = 6 ∨ j = 7 by omega) with rfl | rfl | rfl | rfl | rfl | rfl | rfl | rfl <;> rfl
set_option maxRecDepth 100000 in
theorem c_pI (I : Nat → Int32) (A : Nat → Nat → Int32) (tp : Nat) {j : Nat} (h : j < 8) (q : Nat) (hq : q < 6) : ab_getI (cW I A tp) 3 (22 + j) q = some (I (8 + 6 * j + q)) := by
  rcases (show j = 0 ∨ j = 1 ∨ j = 2 ∨ j = 3 ∨ j = 4 ∨ j = 5 ∨ j = 6 ∨ j = 7 by omega) with rfl | rfl | rfl | rfl | rfl | rfl | rfl | rfl <;> rcases (show q = 0 ∨ q = 1 ∨ q = 2 ∨ q = 3 ∨ q = 4 ∨ q = 5 by omega) with rfl | rfl | rfl | rfl | rfl | rfl <;> rfl
set_option maxRecDepth 100000 in
theorem c_pP (I : Nat → Int32) (A : Nat → Nat → Int32) (tp : Nat) {j : Nat} (h : j < 8) (q : Nat) (hq : q < 6) (v : Int32) : ab_putI (cW I A tp) 3 (22 + j) q v = some (cW (upd I (8 + 6 * j + q) v) A tp) := by
  rcases (show j = 0 ∨ j = 1 ∨ j = 2 ∨ j = 3 ∨ j = 4 ∨ j = 5 ∨ j = 6 ∨ j = 7 by omega) with rfl | rfl | rfl | rfl | rfl | rfl | rfl | rfl <;> rcases (show q = 0 ∨ q = 1 ∨ q = 2 ∨ q = 3 ∨ q = 4 ∨ q = 5 by omega) with rfl | rfl | rfl | rfl | rfl | rfl <;> rfl
set_option maxRecDepth 100000 in
theorem c_pZ (I : Nat → Int32) (A : Nat → Nat → Int32) (tp : Nat) {j : Nat} (h : j < 8) {v : Int32} (hv : v = 0 ∨ v = 1) : ab_putZ (cW I A tp) 3 (22 + j) 4 v = some (cW (upd I (8 + 6 * j + 4) v) A tp) := by
  rw [ab_putZ, if_pos hv]
  exact c_pP I A tp h 4 (by decide) v
set_option maxRecDepth 100000 in
theorem c_kis (I : Nat → Int32) (A : Nat → Nat → Int32) (tp : Nat) {j : Nat} (h : j < 8) : ab_is (cW I A tp) 3 (41 + j) = true := by
  rcases (show j = 0 ∨ j = 1 ∨ j = 2 ∨ j = 3 ∨ j = 4 ∨ j = 5 ∨ j = 6 ∨ j = 7 by omega) with rfl | rfl | rfl | rfl | rfl | rfl | rfl | rfl <;> rfl
set_option maxRecDepth 100000 in
theorem c_kI (I : Nat → Int32) (A : Nat → Nat → Int32) (tp : Nat) {j : Nat} (h : j < 8) (q : Nat) (hq : q < 6) : ab_getI (cW I A tp) 3 (41 + j) q = some (I (208 + 6 * j + q)) := by
  rcases (show j = 0 ∨ j = 1 ∨ j = 2 ∨ j = 3 ∨ j = 4 ∨ j = 5 ∨ j = 6 ∨ j = 7 by omega) with rfl | rfl | rfl | rfl | rfl | rfl | rfl | rfl <;> rcases (show q = 0 ∨ q = 1 ∨ q = 2 ∨ q = 3 ∨ q = 4 ∨ q = 5 by omega) with rfl | rfl | rfl | rfl | rfl | rfl <;> rfl
set_option maxRecDepth 100000 in
theorem c_kP (I : Nat → Int32) (A : Nat → Nat → Int32) (tp : Nat) {j : Nat} (h : j < 8) (q : Nat) (hq : q < 6) (v : Int32) : ab_putI (cW I A tp) 3 (41 + j) q v = some (cW (upd I (208 + 6 * j + q) v) A tp) := by
  rcases (show j = 0 ∨ j = 1 ∨ j = 2 ∨ j = 3 ∨ j = 4 ∨ j = 5 ∨ j = 6 ∨ j = 7 by omega) with rfl | rfl | rfl | rfl | rfl | rfl | rfl | rfl <;> rcases (show q = 0 ∨ q = 1 ∨ q = 2 ∨ q = 3 ∨ q = 4 ∨ q = 5 by omega) with rfl | rfl | rfl | rfl | rfl | rfl <;> rfl
set_option maxRecDepth 100000 in
theorem c_kZ (I : Nat → Int32) (A : Nat → Nat → Int32) (tp : Nat) {j : Nat} (h : j < 8) {v : Int32} (hv : v = 0 ∨ v = 1) : ab_putZ (cW I A tp) 3 (41 + j) 4 v = some (cW (upd I (208 + 6 * j + 4) v) A tp) := by
  rw [ab_putZ, if_pos hv]
  exact c_kP I A tp h 4 (by decide) v
