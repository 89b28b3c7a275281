/-! ===== all together ===== -/
def INV (n : Nat) (wc wm : ab_W) : Prop := ∃ I A tp J B, wc = cW I A tp ∧ wm = mW J B ∧ RR n I A J B
theorem OK.inv {n : Nat} {S1 S2 : Option (Int32 × ab_W)} (h : OK n S1 S2) : ∃ r wc1 wm1, S1 = some (r, wc1) ∧ S2 = some (r, wm1) ∧ INV (n + 1) wc1 wm1 := by
  obtain ⟨r, I, A, tp, J, B, h1, h2, h3⟩ := h
  exact ⟨r, _, _, h1, h2, I, A, tp, J, B, rfl, rfl, h3⟩
theorem all_ok : law_ok INV := by
  refine ⟨fun n wc wm h => ?_, ?_, ?_, ?_, ?_, ?_, ?_, ?_, ?_, ?_, ?_, ?_, ?_, ?_, ?_, ?_, ?_, ?_, ?_, ?_, ?_, ?_, ?_, ?_, ?_, ?_, ?_, ?_, ?_, ?_, ?_, ?_, ?_, ?_, ?_, ?_, ?_, ?_, ?_, ?_, ?_⟩
  · obtain ⟨I, A, tp, J, B, rfl, rfl, h⟩ := h
    exact ⟨rfl, rfl, I, A, tp, J, B, rfl, rfl, h.mono⟩
  · intro n wc wm hn h a1 a2
    obtain ⟨I, A, tp, J, B, rfl, rfl, h⟩ := h
    exact (op_paper h a1 a2).inv
  · intro n wc wm hn h a1 a2
    obtain ⟨I, A, tp, J, B, rfl, rfl, h⟩ := h
    exact (op_ofPaper h a1 a2).inv
  · intro n wc wm hn h a1 a2 a3
    obtain ⟨I, A, tp, J, B, rfl, rfl, h⟩ := h
    exact (op_change h a1 a2 a3).inv
  · intro n wc wm hn h a1 a2
    obtain ⟨I, A, tp, J, B, rfl, rfl, h⟩ := h
    exact (op_fold h a1 a2).inv
  · intro n wc wm hn h a1
    obtain ⟨I, A, tp, J, B, rfl, rfl, h⟩ := h
    exact (op_release h a1).inv
  · intro n wc wm hn h a1
    obtain ⟨I, A, tp, J, B, rfl, rfl, h⟩ := h
    exact (op_wind h a1).inv
  · intro n wc wm hn h a1 a2
    obtain ⟨I, A, tp, J, B, rfl, rfl, h⟩ := h
    exact (op_become h a1 a2).inv
  · intro n wc wm hn h a1 a2
    obtain ⟨I, A, tp, J, B, rfl, rfl, h⟩ := h
    exact (op_as h a1 a2).inv
  · intro n wc wm hn h a1 a2
    obtain ⟨I, A, tp, J, B, rfl, rfl, h⟩ := h
    exact (op_feed h a1 a2).inv
  · intro n wc wm hn h a1
    obtain ⟨I, A, tp, J, B, rfl, rfl, h⟩ := h
    exact (op_text h a1).inv
  · intro n wc wm hn h a1 a2 a3 a4
    obtain ⟨I, A, tp, J, B, rfl, rfl, h⟩ := h
    exact (op_law h a1 a2 a3 a4).inv
  · intro n wc wm hn h a1
    obtain ⟨I, A, tp, J, B, rfl, rfl, h⟩ := h
    exact (op_days h a1).inv
  · intro n wc wm hn h a1
    obtain ⟨I, A, tp, J, B, rfl, rfl, h⟩ := h
    exact (op_loose h a1).inv
  · intro n wc wm hn h a1 a2
    obtain ⟨I, A, tp, J, B, rfl, rfl, h⟩ := h
    exact (op_shape h a1 a2).inv
  · intro n wc wm hn h a1 a2
    obtain ⟨I, A, tp, J, B, rfl, rfl, h⟩ := h
    exact (op_least h a1 a2).inv
  · intro n wc wm hn h a1 a2 a3
    obtain ⟨I, A, tp, J, B, rfl, rfl, h⟩ := h
    exact (op_shapes h a1 a2 a3).inv
  · intro n wc wm hn h a1 a2
    obtain ⟨I, A, tp, J, B, rfl, rfl, h⟩ := h
    exact (op_way h a1 a2).inv
  · intro n wc wm hn h a1 a2
    obtain ⟨I, A, tp, J, B, rfl, rfl, h⟩ := h
    exact (op_open h a1 a2).inv
  · intro n wc wm hn h a1
    obtain ⟨I, A, tp, J, B, rfl, rfl, h⟩ := h
    exact (op_alike h a1).inv
  · intro n wc wm hn h a1 a2 a3
    obtain ⟨I, A, tp, J, B, rfl, rfl, h⟩ := h
    exact (op_then h a1 a2 a3).inv
  · intro n wc wm hn h a1
    obtain ⟨I, A, tp, J, B, rfl, rfl, h⟩ := h
    exact (op_first h a1).inv
  · intro n wc wm hn h a1 a2 a3
    obtain ⟨I, A, tp, J, B, rfl, rfl, h⟩ := h
    exact (op_best h a1 a2 a3).inv
  · intro n wc wm hn h a1 a2
    obtain ⟨I, A, tp, J, B, rfl, rfl, h⟩ := h
    exact (op_fits h a1 a2).inv
  · intro n wc wm hn h a1
    obtain ⟨I, A, tp, J, B, rfl, rfl, h⟩ := h
    exact (op_owed h a1).inv
  · intro n wc wm hn h a1
    obtain ⟨I, A, tp, J, B, rfl, rfl, h⟩ := h
    exact (op_debtor h a1).inv
  · intro n wc wm hn h a1 a2
    obtain ⟨I, A, tp, J, B, rfl, rfl, h⟩ := h
    exact (op_odds h a1 a2).inv
  · intro n wc wm hn h a1
    obtain ⟨I, A, tp, J, B, rfl, rfl, h⟩ := h
    exact (op_seed h a1).inv
  · intro n wc wm hn h a1 a2 a3
    obtain ⟨I, A, tp, J, B, rfl, rfl, h⟩ := h
    exact (op_voice h a1 a2 a3).inv
  · intro n wc wm hn h a1
    obtain ⟨I, A, tp, J, B, rfl, rfl, h⟩ := h
    exact (op_trace h a1).inv
  · intro n wc wm hn h a1 a2 a3
    obtain ⟨I, A, tp, J, B, rfl, rfl, h⟩ := h
    exact (op_sheet h a1 a2 a3).inv
  · intro n wc wm hn h a1 a2 a3
    obtain ⟨I, A, tp, J, B, rfl, rfl, h⟩ := h
    exact (op_put h a1 a2 a3).inv
  · intro n wc wm hn h a1 a2 a3 a4 a5
    obtain ⟨I, A, tp, J, B, rfl, rfl, h⟩ := h
    exact (op_move h a1 a2 a3 a4 a5).inv
  · intro n wc wm hn h a1
    obtain ⟨I, A, tp, J, B, rfl, rfl, h⟩ := h
    exact (op_debts h a1).inv
  · intro n wc wm hn h a1
    obtain ⟨I, A, tp, J, B, rfl, rfl, h⟩ := h
    exact (op_judge h a1).inv
  · intro n wc wm hn h
    obtain ⟨I, A, tp, J, B, rfl, rfl, h⟩ := h
    exact (op_image h hn).inv
  · intro n wc wm hn h
    obtain ⟨I, A, tp, J, B, rfl, rfl, h⟩ := h
    exact (op_restore h hn).inv
  · intro n wc wm hn h a1
    obtain ⟨I, A, tp, J, B, rfl, rfl, h⟩ := h
    exact (op_tell h a1).inv
  · intro n wc wm hn h
    obtain ⟨I, A, tp, J, B, rfl, rfl, h⟩ := h
    exact (op_check h).inv
  · intro n wc wm hn h a1
    obtain ⟨I, A, tp, J, B, rfl, rfl, h⟩ := h
    exact (op_count h a1).inv
  · intro n wc wm hn h a1
    obtain ⟨I, A, tp, J, B, rfl, rfl, h⟩ := h
    exact (op_told h a1).inv
theorem pure_all : ∃ (I : Nat → ab_W → ab_W → Prop) (wc0 wm0 : ab_W), law_ok I ∧ sX9_init 0 wc_new = some wc0 ∧ sX10_init 0 wm_new = some wm0 ∧ I 0 wc0 wm0 := by
  obtain ⟨f, g, h, e1, e2⟩ := c_init
  exact ⟨INV, _, _, all_ok, e1, m_init, sI, sA f g h, 62, sJ, sB, rfl, rfl, RR_0 e2⟩
