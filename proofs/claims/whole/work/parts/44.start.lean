set_option maxRecDepth 100000 in
theorem uX9_init : gj_Y yX9_init cX9_init 2 none 0 ∧ Cond.instanceMethod yX9_init ∈ gj_tb := ⟨⟨gj_in (List.mem_of_getElem? (i := 73) rfl) (by decide +kernel), gj_in (List.mem_of_getElem? (i := 54) (by decide +kernel)) (by decide +kernel), by decide +kernel, by decide +kernel, by decide⟩, gj_in (List.mem_of_getElem? (i := 72) (by decide +kernel)) (by decide +kernel)⟩
theorem wn_L_7 : Cond.classLink RL 7 RX9 ∈ gj_tb ∧ Cond.instantiable RX9 9 ∈ gj_tb ∧ Cond.initialized RX9 ∈ gj_tb := ⟨gj_in (List.mem_of_getElem? (i := 69) (by decide +kernel)) (by decide +kernel), gj_in (List.mem_of_getElem? (i := 70) (by decide +kernel)) (by decide +kernel), gj_in (List.mem_of_getElem? (i := 54) (by decide +kernel)) (by decide +kernel)⟩
theorem wm_L_9 : Cond.methodLink RL 9 yX9_init ∈ gj_tb := gj_in (List.mem_of_getElem? (i := 71) (by decide +kernel)) (by decide +kernel)
set_option maxRecDepth 100000 in
theorem uX10_init : gj_Y yX10_init cX10_init 1 none 0 ∧ Cond.instanceMethod yX10_init ∈ gj_tb := ⟨⟨gj_in (List.mem_of_getElem? (i := 849) rfl) (by decide +kernel), gj_in (List.mem_of_getElem? (i := 66) (by decide +kernel)) (by decide +kernel), by decide +kernel, by decide +kernel, by decide⟩, gj_in (List.mem_of_getElem? (i := 848) (by decide +kernel)) (by decide +kernel)⟩
theorem wn_L_10 : Cond.classLink RL 10 RX10 ∈ gj_tb ∧ Cond.instantiable RX10 26 ∈ gj_tb ∧ Cond.initialized RX10 ∈ gj_tb := ⟨gj_in (List.mem_of_getElem? (i := 845) (by decide +kernel)) (by decide +kernel), gj_in (List.mem_of_getElem? (i := 846) (by decide +kernel)) (by decide +kernel), gj_in (List.mem_of_getElem? (i := 66) (by decide +kernel)) (by decide +kernel)⟩
theorem wm_L_12 : Cond.methodLink RL 12 yX10_init ∈ gj_tb := gj_in (List.mem_of_getElem? (i := 847) (by decide +kernel)) (by decide +kernel)
section GS
variable {p : Program} {l : Launch} {e : Env} {s : State} {m : MethodId} {below : List Frame} {meth : Method} {c : Code} {b L : Nat} {xs : Nat → Int32} {D : va_G} {tc : Nat → ClassId} {ta tb : Nat} {Q : State → Prop}
/-- new, dup, <init> in the law: the object's world stands from the heap's end on -/
theorem gs_new (C : gl_C p s m meth c b L xs D tc ta tb) (hO : gn_O s) {C0 : String} {T : u_T} {N ci i1 i2 : Nat} {fs : List Value} (tys : Nat → FieldType) {y : MethodName} {cy : ByteArray} {ny dy lim mc ms : Nat} {w1 : ab_W} {pc cells slots : Nat} {H : Heap} {locs : List Loc} {ls : Array Slot}
    (hd0 : decode cL_law pc = .ok (.new i1, 3)) (hd1 : decode cL_law (pc + 3) = .ok (.dup, 1)) (hd2 : decode cL_law (pc + 4) = .ok (.invokespecial i2, 3)) (hw : Cond.classLink RL i1 C0 ∈ gj_tb ∧ Cond.instantiable C0 N ∈ gj_tb ∧ Cond.initialized C0 ∈ gj_tb) (hin0 : ∀ w ∈ u_ws C0 T N, w ∈ gj_tb) (hc : vwCl[ci]? = some (C0, T, N)) (hty : ∀ k, k < N → parseFieldDescriptor (T k).2.2.1 = some (tys k)) (hfs : ∀ j, j < N → defaultValue (tys j) = vp_V fs j) (hfv : ∀ ad, fs.map (ab_v ad) = fs)
    (hl : Cond.methodLink RL i2 y ∈ gj_tb) (hY : gj_Y y cy ny none 0 ∧ Cond.instanceMethod y ∈ gj_tb) (hnm : y.name = "<init>") (M : gn_M y cy ny dy lim mc ms [.ref 0] [.inr (ci, fs)] w1) (hlim : 1 ≤ lim) (hR : dy ≤ 1000) (hls : ls.size = 4) (hS : va_S (fun q : Nat => s.heap.size ≤ q) s.heap H locs) (hcs : cells + 1 + mc ≤ 600000 ∧ slots + N + ms ≤ 7302250)
    (k : ∀ (H1 : Heap) (locs1 : List Loc), va_P D vwCl (ab_x (gl_ad H.size ta tb) tc w1) H1 → w1.length = 1 + mc → (∀ q : Nat, q < H.size → H1[q]? = H[q]?) → va_S (fun q : Nat => s.heap.size ≤ q) s.heap H1 locs1 → W p l e room_1 s m #[Value.ref b] below meth c H1 locs1 (cells + 1 + mc) (slots + N + ms) Q (F0 m (pc + 4 + 3) ls [.ref H.size])) :
    W p l e room_1 s m #[Value.ref b] below meth c H locs cells slots Q (F0 m pc ls []) := by
  obtain ⟨⟨hx, hb, hml, hown, hts⟩, hr, hlk, ⟨hX, hbl, hL3⟩, hK, hSt, hNw⟩ := C
  have hKn := hK.1 ci _ hc
  refine W.newcK hx hb hown (hts _ hw.1) (hts _ hw.2.1) (hts _ hw.2.2) rfl hd0 (by show _ ≤ 600000; omega) (by show _ ≤ 7302250; omega) hKn.2.1 rfl fun H1 kC hkC e1 z1 o1 => ?_
  have hP1 : va_P D vwCl (ab_x (gl_ad H.size ta tb) tc [.inr (ci, fs)]) H1 := by
    intro k q hk
    have hk9 := gl_x_key (w := [.inr (ci, fs)]) (by simp) hk
    have hk0 : k = 0 := by have := hk9.1; simp at this; omega
    subst hk0
    have e0 : (ab_x (gl_ad H.size ta tb) tc [.inr (ci, fs)])[0]? = some (H.size, .inr (ci, fs)) := by
      rw [ab_x_get (e := .inr (ci, fs)) rfl]
      show some (gl_ad H.size ta tb 0, Sum.inr (ci, fs.map (ab_v _))) = _
      rw [hfv, gl_ad_lt (by omega)]
      rfl
    rw [e0] at hk
    cases hk
    exact ⟨_, hc, (u_born tys hts hin0 hKn hkC e1 hty).to hfs⟩
  have hS1 : va_S (fun q : Nat => s.heap.size ≤ q) s.heap H1 locs := ⟨Nat.le_trans hS.1 (by omega), fun x h1 h2 => (o1 x (Nat.lt_of_lt_of_le h1 hS.1)).trans (hS.2.1 x h1 h2), hS.2.2⟩
  refine lv_dup hx hb hd1 rfl ?_
  have hAA : ∀ q, (fun q : Nat => H.size ≤ q) q → (fun q : Nat => s.heap.size ≤ q) q := fun q h => Nat.le_trans hS.1 h
  have had0 : gl_ad H.size ta tb 0 = H.size := by simp [gl_ad]
  have e2 : [Value.ref 0].map (ab_v (gl_ad H.size ta tb)) = [Value.ref H.size] := by
    show [Value.ref (gl_ad H.size ta tb 0)] = _
    rw [had0]
  have M2 := M l D (gl_ad H.size ta tb) tc (fun q : Nat => H.size ≤ q) H.size (fun k hk => gl_ad_lt hk) (by simpa using hlim)
  rw [e2] at M2
  have cb : CallB room_1 s #[Value.ref b] RL i2 y cy ny none (gj_ws y cy ny none) (gn_R dy mc ms) mc ms 0 := by
    obtain ⟨g1, g2, g3, g4, g5⟩ := hY.1
    refine callB_of (ws' := gj_tb) 0 hts ?_ rfl rfl rfl (hts _ g2) (hts _ hl) ⟨g3.1, g3.2, g4⟩ ⟨?_, ?_⟩
    · intro w hw
      rcases List.mem_cons.mp hw with rfl | hw
      · exact gj_good _ g1
      · exact gj_good _ hw
    · show dy + 1 ≤ 2048
      omega
    · show 8 + (ny + 11) + 64 * dy ≤ 84000
      omega
  have bl : FrameBlind (va_Pc [Value.ref H.size] (gn_B D (gl_ad H.size ta tb) tc (fun q : Nat => H.size ≤ q) H.size [.inr (ci, fs)])) := by
    intro a U g mk q
    obtain ⟨q0, ⟨qP, qK, qD, qA, qS, qN⟩, qz, qO⟩ := q
    exact ⟨q0, ⟨qP, va_K.moved (u := U) (U := U.calling g mk a) (Vm.Alike.refl U.vm) qK, qD, qA, gj_S.moved (u := U) (U := U.calling g mk a) (Vm.Alike.refl U.vm) qS, va_Nw.same (u := U) (U := U.calling g mk a) rfl rfl qN⟩, qz, gn_O.moved (u := U) (U := U.calling g mk a) (Vm.Alike.refl U.vm) qO⟩
  have hpre : ∀ U : State, U.heap = H1 → s.WarmedH U.vm → va_Pc [Value.ref H.size] (gn_B D (gl_ad H.size ta tb) tc (fun q : Nat => H.size ≤ q) H.size [.inr (ci, fs)]) [Value.ref H.size].toArray U := by
    intro U hU hW
    refine ⟨rfl, ⟨by rw [hU]; exact hP1, va_K.moved hW.alike hK, gl_x_D (by simp) (fun k hk => ?_), fun q hq => ?_, ?_, va_Nw.warmF hW hNw⟩, ?_, hO.moved hW.alike⟩
    · show H.size ≤ H.size + k
      omega
    · rw [hU] at hq
      show H.size ≤ q
      omega
    · rw [hU]
      exact gj_S.narrow (gl_S_ad (base' := H.size) ((hSt.moved hW.alike).kept hS1.2.1)) hAA
    · rw [hU, z1]
      rfl
  refine va_callv (va_runI (b := H.size) (As := []) (rest := [.ref H.size]) ⟨hx, hb, hml, hown, hts⟩ M2 ⟨cb, hnm, hts _ hY.2⟩ ⟨bl, hpre⟩ rfl rfl hls rfl (lv_room (Nat.le_of_ble_eq_true rfl)) hd2 ⟨by show _ ≤ 600000; omega, by show _ ≤ 7302250; omega⟩) hS1 (fun q _ h => hAA q h) (fun q h => hAA q h) (fun u t H2 locs2 ht hvm hw hB hz1 hk1 hS2 => ?_)
  obtain ⟨rfl, hlen⟩ := hw
  obtain ⟨hP2, hD2⟩ := hB
  rw [ht] at hP2
  refine k H2 locs2 hP2 hlen (fun q hq => ?_) hS2
  rw [hk1 q (by omega) (Nat.not_le.mpr hq), o1 q hq]
end GS
def wc_new : ab_W := [.inr (9, [.null, .null, .null, .null, .null, .null, .null, .null, .int 0])]
def wm_new : ab_W := [.inr (10, [.null, .null, .null, .null, .int 0, .int 0, .null, .int 0, .int 0, .int 0, .int 0, .int 0, .int 0, .int 0, .int 0, .null, .null, .null, .null, .null, .null, .null, .int 0, .int 0, .int 0, .int 0])]
set_option maxHeartbeats 4000000 in
set_option maxRecDepth 100000 in
/-- THE LAW, from its entry, out of an invariant that the two objects' calls keep -/
theorem whole_open {I : Nat → ab_W → ab_W → Prop} (hOk : law_ok I) {wc0 wm0 : ab_W} (hi9 : sX9_init 0 wc_new = some wc0) (hi10 : sX10_init 0 wm_new = some wm0) (hI0 : I 0 wc0 wm0) {p : Program} {e : Env} {s : State} {m : MethodId} {below : List Frame} {meth : Method} {c : Code} (l : Launch) {b L : Nat} {xs : Nat → Int32} (hL : L ≤ 3072) (C0 : lw_At p s m meth c b L xs) : W p l e room_1 s m #[Value.ref b] below meth c s.heap [] 0 0 (lw_Z below #[Value.ref b] s) (entryFrame m ([Value.ref b] : List Value).toArray 4) := by
  obtain ⟨hx, hb, hr, hml, hown, hts, hX, hbl, hlocks, hgv⟩ := id C0
  have hg := flat_of_before _ hgv
  have htg : ∀ w ∈ gj_tb, w.before #[Value.ref b] s = true := fun w h => hts w (List.mem_filter.mp h).1
  obtain ⟨c0, iS0, hKn0⟩ := u_known (C := RX0) (T := TX0) (N := 10) (n := 10) hts inX0 (hts (.instantiable RX0 10) (List.mem_of_getElem? (i := 138) (by decide +kernel)))
  obtain ⟨c1, iS1, hKn1⟩ := u_known (C := RX1) (T := TX1) (N := 5) (n := 5) hts inX1 (hts (.instantiable RX1 5) (List.mem_of_getElem? (i := 263) (by decide +kernel)))
  obtain ⟨c2, iS2, hKn2⟩ := u_known (C := RX2) (T := TX2) (N := 3) (n := 3) hts inX2 (hts (.instantiable RX2 3) (List.mem_of_getElem? (i := 194) (by decide +kernel)))
  obtain ⟨c3, iS3, hKn3⟩ := u_known (C := RX3) (T := TX3) (N := 6) (n := 6) hts inX3 (hts (.instantiable RX3 6) (List.mem_of_getElem? (i := 147) (by decide +kernel)))
  obtain ⟨c4, iS4, hKn4⟩ := u_known (C := RX4) (T := TX4) (N := 5) (n := 5) hts inX4 (hts (.instantiable RX4 5) (List.mem_of_getElem? (i := 310) (by decide +kernel)))
  obtain ⟨c5, iS5, hKn5⟩ := u_known (C := RX5) (T := TX5) (N := 3) (n := 3) hts inX5 (hts (.instantiable RX5 3) (List.mem_of_getElem? (i := 79) (by decide +kernel)))
  obtain ⟨c6, iS6, hKn6⟩ := u_known (C := RX6) (T := TX6) (N := 5) (n := 5) hts inX6 (hts (.instantiable RX6 5) (List.mem_of_getElem? (i := 99) (by decide +kernel)))
  obtain ⟨c7, iS7, hKn7⟩ := u_known (C := RX7) (T := TX7) (N := 6) (n := 6) hts inX7 (hts (.instantiable RX7 6) (List.mem_of_getElem? (i := 257) (by decide +kernel)))
  obtain ⟨c8, iS8, hKn8⟩ := u_known (C := RX8) (T := TX8) (N := 5) (n := 5) hts inX8 (hts (.instantiable RX8 5) (List.mem_of_getElem? (i := 336) (by decide +kernel)))
  obtain ⟨c9, iS9, hKn9⟩ := u_known (C := RX9) (T := TX9) (N := 9) (n := 9) hts inX9 (hts (.instantiable RX9 9) (List.mem_of_getElem? (i := 70) (by decide +kernel)))
  obtain ⟨c10, iS10, hKn10⟩ := u_known (C := RX10) (T := TX10) (N := 26) (n := 26) hts inX10 (hts (.instantiable RX10 26) (List.mem_of_getElem? (i := 846) (by decide +kernel)))
  obtain ⟨dC, dI, hKc⟩ : ∃ (dC : Nat → ClassId) (dI : Nat → Nat → Nat), ∀ (k : Nat) (q : vw_C), vwCl[k]? = some q → u_Kn s q.1 q.2.1 q.2.2 (dC k) (dI k) := by
    refine ⟨fun k => if k = 0 then c0 else if k = 1 then c1 else if k = 2 then c2 else if k = 3 then c3 else if k = 4 then c4 else if k = 5 then c5 else if k = 6 then c6 else if k = 7 then c7 else if k = 8 then c8 else if k = 9 then c9 else c10, fun k => if k = 0 then iS0 else if k = 1 then iS1 else if k = 2 then iS2 else if k = 3 then iS3 else if k = 4 then iS4 else if k = 5 then iS5 else if k = 6 then iS6 else if k = 7 then iS7 else if k = 8 then iS8 else if k = 9 then iS9 else iS10, ?_⟩
    intro k q hq
    match k, hq with
    | 0, hq => cases hq; exact hKn0
    | 1, hq => cases hq; exact hKn1
    | 2, hq => cases hq; exact hKn2
    | 3, hq => cases hq; exact hKn3
    | 4, hq => cases hq; exact hKn4
    | 5, hq => cases hq; exact hKn5
    | 6, hq => cases hq; exact hKn6
    | 7, hq => cases hq; exact hKn7
    | 8, hq => cases hq; exact hKn8
    | 9, hq => cases hq; exact hKn9
    | 10, hq => cases hq; exact hKn10
    | k + 11, hq => simp [vwCl] at hq
  obtain ⟨a0, k0, m0, f01, f02, f03⟩ := Cond.arrayClass_spec (hts (.arrayClass .int) (List.mem_of_getElem? (i := 97) (by decide +kernel)))
  have hov1 := hts (.arrayOver (.object RX3)) (List.mem_of_getElem? (i := 144) (by decide +kernel))
  have hov2 := hts (.arrayOver (.object RX2)) (List.mem_of_getElem? (i := 146) (by decide +kernel))
  have hov3 := hts (.arrayOver (.object RX5)) (List.mem_of_getElem? (i := 78) (by decide +kernel))
  obtain ⟨m1, a1, k1, f11, -, f12, f13, f14⟩ := Cond.arrayOver_spec hov1
  obtain ⟨m2, a2, k2, f21, -, f22, f23, f24⟩ := Cond.arrayOver_spec hov2
  obtain ⟨m3, a3, k3, f31, -, f32, f33, f34⟩ := Cond.arrayOver_spec hov3
  obtain ⟨tc, htc⟩ : ∃ tc : Nat → ClassId, tc 0 = a0 ∧ tc 1 = a1 ∧ tc 2 = a2 ∧ tc 3 = a3 := ⟨fun k => if k = 0 then a0 else if k = 1 then a1 else if k = 2 then a2 else a3, rfl, rfl, rfl, rfl⟩
  obtain ⟨rfl, rfl, rfl, rfl⟩ := htc
  have hK : va_K (dC, dI) vwCl (ab_t tc) s := by
    refine ⟨hKc, fun k q hk => ?_⟩
    match k, hk with
    | 0, hk => cases hk; exact ⟨fun n z => ⟨(fun k h => by cases h), k0, f02, m0, f03⟩, f01⟩
    | 1, hk => cases hk; exact ⟨fun n z => ⟨(fun k h => by cases h), k1, f12, m1, f13⟩, k1, m1, f12, f13, f11, f14⟩
    | 2, hk => cases hk; exact ⟨fun n z => ⟨(fun k h => by cases h), k2, f22, m2, f23⟩, k2, m2, f22, f23, f21, f24⟩
    | 3, hk => cases hk; exact ⟨fun n z => ⟨(fun k h => by cases h), k3, f32, m3, f33⟩, k3, m3, f32, f33, f31, f34⟩
    | k + 4, hk => simp [ab_t] at hk
  have hl_a : (Term.length (.static "CraneFolds" "ABOVE" "[I")).eval #[Value.ref b] s none [] s = some (.int (Int32.ofNat 7)) := va_eqt (hg (.eq (.length (.static "CraneFolds" "ABOVE" "[I")) (.int 7)) (by decide +kernel))
  have he_a : ∀ j : Nat, j < 7 → (Term.elem (.static "CraneFolds" "ABOVE" "[I") (.int (Int32.ofNat j))).eval #[Value.ref b] s none [] s = some (.int (ab_above j)) := by
    have hall : ∀ j : Nat, j < 7 → Cond.eq (.elem (.static "CraneFolds" "ABOVE" "[I") (.int (Int32.ofNat j))) (.int (ab_above j)) ∈ flatC (Jvm.Cond.and given_1 narrow_1) := by decide +kernel
    intro j hj
    exact va_eqt (hg _ (hall j hj))
  obtain ⟨t_a, ht_a, hT_a⟩ := va_Tof (A := fun q : Nat => s.heap.size ≤ q) (ty := .int) (f := fun j => .int (ab_above j)) (by decide) (hg (.arrayOf (.static "CraneFolds" "ABOVE" "[I") .int) (by decide +kernel)) hl_a he_a (fun a h => Nat.not_le.mpr h)
  have hZ_a : va_Z "CraneFolds" "ABOVE" "[I" (.ref t_a) (fun q : Nat => s.heap.size ≤ q) s s.heap := va_Zof (hts (.laysStatic "CraneFolds" "ABOVE" "[I") (List.mem_of_getElem? (i := 455) (by decide +kernel))) (hts (.initialized "CraneFolds") (List.mem_of_getElem? (i := 54) (by decide +kernel))) ht_a (fun a h => Nat.not_le.mpr h)
  have hl_b : (Term.length (.static "CraneFolds$Voices" "BODIES" "[I")).eval #[Value.ref b] s none [] s = some (.int (Int32.ofNat 28)) := va_eqt (hg (.eq (.length (.static "CraneFolds$Voices" "BODIES" "[I")) (.int 28)) (by decide +kernel))
  have he_b : ∀ j : Nat, j < 28 → (Term.elem (.static "CraneFolds$Voices" "BODIES" "[I") (.int (Int32.ofNat j))).eval #[Value.ref b] s none [] s = some (.int (ab_bodies j)) := by
    have hall : ∀ j : Nat, j < 28 → Cond.eq (.elem (.static "CraneFolds$Voices" "BODIES" "[I") (.int (Int32.ofNat j))) (.int (ab_bodies j)) ∈ flatC (Jvm.Cond.and given_1 narrow_1) := by decide +kernel
    intro j hj
    exact va_eqt (hg _ (hall j hj))
  obtain ⟨t_b, ht_b, hT_b⟩ := va_Tof (A := fun q : Nat => s.heap.size ≤ q) (ty := .int) (f := fun j => .int (ab_bodies j)) (by decide) (hg (.arrayOf (.static "CraneFolds$Voices" "BODIES" "[I") .int) (by decide +kernel)) hl_b he_b (fun a h => Nat.not_le.mpr h)
  have hZ_b : va_Z "CraneFolds$Voices" "BODIES" "[I" (.ref t_b) (fun q : Nat => s.heap.size ≤ q) s s.heap := va_Zof (hts (.laysStatic "CraneFolds$Voices" "BODIES" "[I") (List.mem_of_getElem? (i := 757) (by decide +kernel))) (hts (.initialized "CraneFolds$Voices") (List.mem_of_getElem? (i := 65) (by decide +kernel))) ht_b (fun a h => Nat.not_le.mpr h)
  have hSt : gj_S (gl_ad 0 t_a t_b) (fun q : Nat => s.heap.size ≤ q) s s.heap := ⟨⟨hZ_a, hT_a⟩, ⟨hZ_b, hT_b⟩⟩
  have hNw : gj_N s := va_Nw.of rfl (hts (.fieldLinkNest RX8 47 RX9 "ABOVE" "[I" "CraneFolds") (List.mem_of_getElem? (i := 758) (by decide +kernel)))
  have C : gl_C p s m meth c b L xs (dC, dI) tc t_a t_b := ⟨⟨hx, hb, hml, hown, htg⟩, hr, hlocks, ⟨hX, hbl, hL⟩, hK, hSt, hNw⟩
  have hO : gn_O s := ⟨va_AO.of hov1, va_AO.of hov2, va_AO.of hov3⟩
  have hl := lv_entry ([.ref b]) (n := 4) (Nat.le_of_ble_eq_true rfl)
  rw [lg_entry_eq]
  generalize (lg_sl ([.ref b]) ++ List.replicate (4 - (lg_sl ([.ref b])).length) Slot.unset).toArray = ls at hl ⊢
  have hl : lv_has ls 4 [(0, .ref b)] := hl
  refine gs_new C hO (ci := 9) (fs := [.null, .null, .null, .null, .null, .null, .null, .null, .int 0]) tyX9 dL_law_0 dL_law_3 dL_law_4 wn_L_7 iX9 rfl tyX9_ok (fun j hj => by rcases (show j = 0 ∨ j = 1 ∨ j = 2 ∨ j = 3 ∨ j = 4 ∨ j = 5 ∨ j = 6 ∨ j = 7 ∨ j = 8 by omega) with rfl | rfl | rfl | rfl | rfl | rfl | rfl | rfl | rfl <;> rfl) (fun _ => rfl) wm_L_9 uX9_init rfl (kX9_init _ _ _ hi9) (by decide) (by decide) hl.1 va_S.rf ⟨by decide, by decide⟩ (fun H1 locs1 hP1 hlen1 ho1 hS1 => ?_)
  refine lv_astore_n (lv' := [(1, .ref s.heap.size), (0, .ref b)]) hx hb dL_law_7 rfl hl (by decide) rfl (fun ls hl => ?_)
  refine gn_size (fun hup => ?_)
  have hz1 : H1.size = s.heap.size + 65 := by
    have h9 := gl_P_lt (by omega) hP1 (k := 64) (by omega)
    omega
  refine gs_new C hO (ci := 10) (fs := [.null, .null, .null, .null, .int 0, .int 0, .null, .int 0, .int 0, .int 0, .int 0, .int 0, .int 0, .int 0, .int 0, .null, .null, .null, .null, .null, .null, .null, .int 0, .int 0, .int 0, .int 0]) tyX10 dL_law_8 dL_law_11 dL_law_12 wn_L_10 iX10 rfl tyX10_ok (fun j hj => by rcases (show j = 0 ∨ j = 1 ∨ j = 2 ∨ j = 3 ∨ j = 4 ∨ j = 5 ∨ j = 6 ∨ j = 7 ∨ j = 8 ∨ j = 9 ∨ j = 10 ∨ j = 11 ∨ j = 12 ∨ j = 13 ∨ j = 14 ∨ j = 15 ∨ j = 16 ∨ j = 17 ∨ j = 18 ∨ j = 19 ∨ j = 20 ∨ j = 21 ∨ j = 22 ∨ j = 23 ∨ j = 24 ∨ j = 25 by omega) with rfl | rfl | rfl | rfl | rfl | rfl | rfl | rfl | rfl | rfl | rfl | rfl | rfl | rfl | rfl | rfl | rfl | rfl | rfl | rfl | rfl | rfl | rfl | rfl | rfl | rfl <;> rfl) (fun _ => rfl) wm_L_12 uX10_init rfl (kX10_init _ _ _ hi10) (by decide) (by decide) hl.1 hS1 ⟨by decide, by decide⟩ (fun H2 locs2 hP2 hlen2 ho2 hS2 => ?_)
  rw [hz1] at hP2 ho2 ⊢
  have hP1 := gl_P_kept (H1 := H2) (by omega) hP1 (fun k hk => ho2 _ (by omega))
  refine lv_astore_n (lv' := [(2, .ref (s.heap.size + 65)), (1, .ref s.heap.size), (0, .ref b)]) hx hb dL_law_15 rfl hl (by decide) rfl (fun ls hl => ?_)
  refine lv_iconst (v := 0) hx hb dL_law_16 (by decide) ?_
  refine lv_istore_n (lv' := [(3, .int 0), (2, .ref (s.heap.size + 65)), (1, .ref s.heap.size), (0, .ref b)]) hx hb dL_law_17 rfl hl (by decide) rfl (fun ls hl => ?_)
  refine law_loop C hOk (fun wc wm lv H locs ls hL hP hPm hwc hwm hS => ?_) (L + 1) 0 0 (by omega) (by omega) rfl wc0 wm0 hI0 H2 locs2 ls ⟨hl.1, hl.2.1, fun i v h => ?_⟩ hP1 hP2 hlen1 hlen2 hS2
  · refine lv_iconst (v := 1) hx hb dL_law_1464 (by decide) ?_
    refine va_forget (fun q hq => hS.2.2 q hq) ?_
    refine W.widen (k := 600000) (n := 7302250) (by omega) (by omega) ?_
    exact lw_ret hx hb hr hlocks dL_law_1465
  · match i, h with
    | 0, h => cases h; exact lv_at hl 3 rfl
    | 1, h => cases h; exact lv_at hl 2 rfl
    | 2, h => cases h; exact lv_at hl 1 rfl
    | 3, h => cases h; exact lv_at hl 0 rfl
    | i + 4, h => simp at h
