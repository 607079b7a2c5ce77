set_option maxHeartbeats 4000000 in
set_option maxRecDepth 100000 in
/-- reached(belief) -/
theorem c_X3_reached (l : Launch) (dC : Nat → ClassId) (dI : Nat → Nat → Nat) (A : Nat → Nat) (cI cQ : ClassId) (σ : HS) (b : Int32) : Met l yX3_reached wsX3_reached ({ frames := 0, cells := 0, slots := 0, locals := 0 }) (va_Pc [.ref (A 0), .int b] (hfP dC dI A cI cQ σ)) (vp_Si (fun r => r = b2i (reS σ b))) 0 0 (fun _ => False) := by
  refine Met.ofW (cc := cX3_reached) (maxL := 2) (ret := (some .boolean)) (by decide) rfl ?_
  intro p e s m args below meth c s₁ B hml hv
  obtain ⟨rfl, hP, hX⟩ := hv
  have hx := B.exec
  have hb := B.bytes
  have hr := B.returns
  have hts := atoms_spec (ws := wsX3_reached) B.pre
  have hown : s.vm.findClass RX3 = some m.cls := findClass_of_methodNamed B.named
  have hlocks := B.notSynchronized
  have hK := hX.1
  have hinX3 : ∀ w ∈ wsX30, w ∈ wsX3_reached := fun _ h => List.mem_cons_of_mem _ (List.mem_append_right _ h)
  have hl := lv_entry ([.ref (A 0), .int b]) (n := 2) (Nat.le_of_ble_eq_true rfl)
  rw [lg_entry_eq]
  generalize (lg_sl ([.ref (A 0), .int b]) ++ List.replicate (2 - (lg_sl ([.ref (A 0), .int b])).length) Slot.unset).toArray = ls at hl ⊢
  have hl : lv_has ls 2 [(0, .ref (A 0)), (1, .int b)] := hl
  refine lv_iload_n hx hb dX3_reached_0 rfl (lv_at hl 1 rfl) ?_
  refine lv_aload_n hx hb dX3_reached_1 rfl (lv_at hl 0 rfl) ?_
  refine va_get (D := (dC, dI)) (ci := 3) (v := .int (goS σ)) (C := RX3) (T := TX3) (N := 9) hx hb hts hinX3 hown hK hP 0 rfl rfl 6 (by decide) (hts _ (List.mem_of_getElem? (i := 1) rfl)) (fun _ h9 => h9) rfl dX3_reached_2 ?_
  refine lv_iconst (v := (-1)) hx hb dX3_reached_5 (by decide) ?_
  refine lv_ixor hx hb dX3_reached_6 ?_
  refine lv_iand hx hb dX3_reached_7 ?_
  refine lv_if_ne (tgt := 15) hx hb dX3_reached_8 (by decide) (fun c8_0 => ?_) (fun c8_0 => ?_)
  · skip
    refine lv_iconst (v := 0) hx hb dX3_reached_15 (by decide) ?_
    exact W.zret (v := 0) hx hb hr rfl (fun t ht hW => ⟨_, rfl, by show _ = b2i (reS σ b); unfold reS; rw [decide_eq_false c8_0]; rfl, ht⟩) (fun q h => nomatch h) dX3_reached_16
  · skip
    refine lv_iconst (v := 1) hx hb dX3_reached_11 (by decide) ?_
    refine lv_goto (tgt := 16) hx hb dX3_reached_12 (by decide) ?_
    exact W.zret (v := 1) hx hb hr rfl (fun t ht hW => ⟨_, rfl, by show _ = b2i (reS σ b); unfold reS; rw [decide_eq_true c8_0]; rfl, ht⟩) (fun q h => nomatch h) dX3_reached_16
set_option maxHeartbeats 4000000 in
set_option maxRecDepth 100000 in
/-- leastAction(belief, 0) -/
theorem c_X3_la0 (l : Launch) (dC : Nat → ClassId) (dI : Nat → Nat → Nat) (A : Nat → Nat) (cI cQ : ClassId) (σ : HS) (b : Int32) : Met l yX3_leastAction wsX3_leastAction ({ frames := 3 * 0 + 4, cells := 0, slots := 0, locals := 69 * 0 + 177 }) (va_Pc [.ref (A 0), .int b, .int (nI 0)] (hfP dC dI A cI cQ σ)) (vp_Si (fun r => r = o2i (leS σ 0 b))) 0 0 (fun _ => False) := by
  refine Met.ofW (cc := cX3_leastAction) (maxL := 4) (ret := (some .int)) (by decide) rfl ?_
  intro p e s m args below meth c s₁ B hml hv
  obtain ⟨rfl, hP, hX⟩ := hv
  have hx := B.exec
  have hb := B.bytes
  have hr := B.returns
  have hts := atoms_spec (ws := wsX3_leastAction) B.pre
  have hown : s.vm.findClass RX3 = some m.cls := findClass_of_methodNamed B.named
  have hlocks := B.notSynchronized
  have hK := hX.1
  have hinX3 : ∀ w ∈ wsX30, w ∈ wsX3_leastAction := fun _ h => List.mem_cons_of_mem _ (List.mem_append_left _ (List.mem_append_right _ h))
  have hl := lv_entry ([.ref (A 0), .int b, .int (nI 0)]) (n := 4) (Nat.le_of_ble_eq_true rfl)
  rw [lg_entry_eq]
  generalize (lg_sl ([.ref (A 0), .int b, .int (nI 0)]) ++ List.replicate (4 - (lg_sl ([.ref (A 0), .int b, .int (nI 0)])).length) Slot.unset).toArray = ls at hl ⊢
  have hl : lv_has ls 4 [(0, .ref (A 0)), (1, .int b), (2, .int (nI 0))] := hl
  refine lv_iload_n hx hb dX3_leastAction_0 rfl (lv_at hl 2 rfl) ?_
  refine lv_if_gt (tgt := 6) hx hb dX3_leastAction_1 (by decide) (fun c1_0 => ?_) (fun c1_0 => ?_)
  · exact absurd c1_0 (by decide)
  · skip
    refine lv_iconst (v := (-1)) hx hb dX3_leastAction_4 (by decide) ?_
    exact W.iret hx hb hr (fun t ht hW => ⟨_, rfl, rfl, ht⟩) (fun q h => nomatch h) dX3_leastAction_5
set_option maxHeartbeats 4000000 in
set_option maxRecDepth 100000 in
/-- solved(belief, n) out of leastAction(belief, n) -/
theorem c_X3_solved_of (l : Launch) (dC : Nat → ClassId) (dI : Nat → Nat → Nat) (A : Nat → Nat) (cI cQ : ClassId) (σ : HS) (n : Nat) (h : ∀ b : Int32, Met l yX3_leastAction wsX3_leastAction ({ frames := 3 * n + 4, cells := 0, slots := 0, locals := 69 * n + 177 }) (va_Pc [.ref (A 0), .int b, .int (nI n)] (hfP dC dI A cI cQ σ)) (vp_Si (fun r => r = o2i (leS σ n b))) 0 0 (fun _ => False)) (b : Int32) : Met l yX3_solved wsX3_solved ({ frames := 3 * n + 5, cells := 0, slots := 0, locals := 69 * n + 200 }) (va_Pc [.ref (A 0), .int b, .int (nI n)] (hfP dC dI A cI cQ σ)) (vp_Si (fun r => r = b2i (slS σ n b))) 0 0 (fun _ => False) := by
  refine Met.ofW (cc := cX3_solved) (maxL := 3) (ret := (some .boolean)) (by decide) rfl ?_
  intro p e s m args below meth c s₁ B hml hv
  obtain ⟨rfl, hP, hX⟩ := hv
  have hx := B.exec
  have hb := B.bytes
  have hr := B.returns
  have hts := atoms_spec (ws := wsX3_solved) B.pre
  have hown : s.vm.findClass RX3 = some m.cls := findClass_of_methodNamed B.named
  have hlocks := B.notSynchronized
  have hK := hX.1
  have hinX3 : ∀ w ∈ wsX30, w ∈ wsX3_solved := fun _ h => List.mem_cons_of_mem _ (List.mem_append_left _ (List.mem_append_right _ h))
  have hl := lv_entry ([.ref (A 0), .int b, .int (nI n)]) (n := 3) (Nat.le_of_ble_eq_true rfl)
  rw [lg_entry_eq]
  generalize (lg_sl ([.ref (A 0), .int b, .int (nI n)]) ++ List.replicate (3 - (lg_sl ([.ref (A 0), .int b, .int (nI n)])).length) Slot.unset).toArray = ls at hl ⊢
  have hl : lv_has ls 3 [(0, .ref (A 0)), (1, .int b), (2, .int (nI n))] := hl
  refine lv_aload_n hx hb dX3_solved_0 rfl (lv_at hl 0 rfl) ?_
  refine lv_iload_n hx hb dX3_solved_1 rfl (lv_at hl 1 rfl) ?_
  refine vp_callSi (W.runV (As := [.int b]) (rest := []) ⟨hx, hb, hml, hown, hts⟩ (c_X3_reached l dC dI A cI cQ σ b) (cwV 1 hts gX3_solved_X3_reached rfl rfl rfl (by decide +kernel) ⟨show 0 + 1 ≤ 3 * n + 5 by omega, show 8 + (2 + 11) + (0) ≤ 69 * n + 200 by omega⟩) ⟨bl_P, va_recv hK hP (ci := 3) (q0 := 0) rfl rfl, fun U hU hW => ⟨rfl, by rw [hU]; exact hP, hX.warm hW⟩⟩ rfl rfl hl.1 rfl (lv_room (Nat.le_of_ble_eq_true rfl)) dX3_solved_2 ⟨Nat.zero_le _, Nat.zero_le _⟩) (fun r er => ?_)
  subst er
  refine lv_if_ne (tgt := 18) hx hb dX3_solved_5 (by decide) (fun c5_0 => ?_) (fun c5_0 => ?_)
  · skip
    refine lv_iconst (v := 1) hx hb dX3_solved_18 (by decide) ?_
    refine lv_goto (tgt := 23) hx hb dX3_solved_19 (by decide) ?_
    exact W.zret (v := 1) hx hb hr rfl (fun t ht hW => ⟨_, rfl, by show _ = b2i (slv (usS σ) (ptS σ) (reS σ) n b); rw [slv_lea, b2i_n0.mp c5_0]; rfl, ht⟩) (fun q h => nomatch h) dX3_solved_23
  · skip
    refine lv_aload_n hx hb dX3_solved_8 rfl (lv_at hl 0 rfl) ?_
    refine lv_iload_n hx hb dX3_solved_9 rfl (lv_at hl 1 rfl) ?_
    refine lv_iload_n hx hb dX3_solved_10 rfl (lv_at hl 2 rfl) ?_
    refine vp_callSi (W.runV (As := [.int b, .int (nI n)]) (rest := []) ⟨hx, hb, hml, hown, hts⟩ (h b) (cwV 2 hts gX3_solved_X3_leastAction rfl rfl rfl (by decide +kernel) ⟨show 3 * n + 4 + 1 ≤ 3 * n + 5 by omega, show 8 + (4 + 11) + (69 * n + 177) ≤ 69 * n + 200 by omega⟩) ⟨bl_P, va_recv hK hP (ci := 3) (q0 := 0) rfl rfl, fun U hU hW => ⟨rfl, by rw [hU]; exact hP, hX.warm hW⟩⟩ rfl rfl hl.1 rfl (lv_room (Nat.le_of_ble_eq_true rfl)) dX3_solved_11 ⟨Nat.zero_le _, Nat.zero_le _⟩) (fun r er => ?_)
    subst er
    refine lv_iconst (v := (-1)) hx hb dX3_solved_14 (by decide) ?_
    refine lv_icmp_eq (tgt := 22) hx hb dX3_solved_15 (by decide) (fun c15_1 => ?_) (fun c15_1 => ?_)
    · skip
      refine lv_iconst (v := 0) hx hb dX3_solved_22 (by decide) ?_
      exact W.zret (v := 0) hx hb hr rfl (fun t ht hW => ⟨_, rfl, by show _ = b2i (slv (usS σ) (ptS σ) (reS σ) n b); rw [slv_lea, b2i_0.mp c5_0, leS_none.mp c15_1]; rfl, ht⟩) (fun q h => nomatch h) dX3_solved_23
    · skip
      refine lv_iconst (v := 1) hx hb dX3_solved_18 (by decide) ?_
      refine lv_goto (tgt := 23) hx hb dX3_solved_19 (by decide) ?_
      exact W.zret (v := 1) hx hb hr rfl (fun t ht hW => ⟨_, rfl, by show _ = b2i (slv (usS σ) (ptS σ) (reS σ) n b); rw [slv_lea, b2i_0.mp c5_0]; cases hq : lea (usS σ) (ptS σ) (reS σ) n b with | none => exact absurd (leS_none.mpr hq) c15_1 | some z => rfl, ht⟩) (fun q h => nomatch h) dX3_solved_23
set_option maxHeartbeats 4000000 in
set_option maxRecDepth 100000 in
/-- solves(action, belief, n + 1) out of solved(.., n) -/
theorem c_X3_solves_of (l : Launch) (dC : Nat → ClassId) (dI : Nat → Nat → Nat) (A : Nat → Nat) (cI cQ : ClassId) (σ : HS) (n : Nat) (h : ∀ b : Int32, Met l yX3_solved wsX3_solved ({ frames := 3 * n + 5, cells := 0, slots := 0, locals := 69 * n + 200 }) (va_Pc [.ref (A 0), .int b, .int (nI n)] (hfP dC dI A cI cQ σ)) (vp_Si (fun r => r = b2i (slS σ n b))) 0 0 (fun _ => False)) {a : Nat} (ha : a < 8) (b : Int32) : Met l yX3_solves wsX3_solves ({ frames := 3 * (n + 1) + 3, cells := 0, slots := 0, locals := 69 * (n + 1) + 153 }) (va_Pc [.ref (A 0), .ref (A (8 + a)), .int b, .int (nI (n + 1))] (hfP dC dI A cI cQ σ)) (vp_Si (fun r => r = b2i (slS σ n (ptS σ a b 0) && slS σ n (ptS σ a b 1)))) 0 0 (fun _ => False) := by
  refine Met.ofW (cc := cX3_solves) (maxL := 5) (ret := (some .boolean)) (by decide) rfl ?_
  intro p e s m args below meth c s₁ B hml hv
  obtain ⟨rfl, hP, hX⟩ := hv
  have hx := B.exec
  have hb := B.bytes
  have hr := B.returns
  have hts := atoms_spec (ws := wsX3_solves) B.pre
  have hown : s.vm.findClass RX3 = some m.cls := findClass_of_methodNamed B.named
  have hlocks := B.notSynchronized
  have hK := hX.1
  have hinX3 : ∀ w ∈ wsX30, w ∈ wsX3_solves := fun _ h => List.mem_cons_of_mem _ (List.mem_append_left _ (List.mem_append_right _ h))
  have hinX0 : ∀ w ∈ wsX00, w ∈ wsX3_solves := fun _ h => List.mem_cons_of_mem _ (List.mem_append_right _ h)
  have hl := lv_entry ([.ref (A 0), .ref (A (8 + a)), .int b, .int (nI (n + 1))]) (n := 5) (Nat.le_of_ble_eq_true rfl)
  rw [lg_entry_eq]
  generalize (lg_sl ([.ref (A 0), .ref (A (8 + a)), .int b, .int (nI (n + 1))]) ++ List.replicate (5 - (lg_sl ([.ref (A 0), .ref (A (8 + a)), .int b, .int (nI (n + 1))])).length) Slot.unset).toArray = ls at hl ⊢
  have hl : lv_has ls 5 [(0, .ref (A 0)), (1, .ref (A (8 + a))), (2, .int b), (3, .int (nI (n + 1)))] := hl
  refine lv_aload_n hx hb dX3_solves_0 rfl (lv_at hl 1 rfl) ?_
  refine lv_iload_n hx hb dX3_solves_1 rfl (lv_at hl 2 rfl) ?_
  refine vp_callSi (W.runV (As := [.int b]) (rest := []) ⟨hx, hb, hml, hown, hts⟩ (c_X0_after l dC dI A cI cQ σ ha b) (cwV 1 hts gX3_solves_X0_after rfl rfl rfl (by decide +kernel) ⟨show 1 + 1 ≤ 3 * (n + 1) + 3 by omega, show 8 + (4 + 11) + (21) ≤ 69 * (n + 1) + 153 by omega⟩) ⟨bl_P, va_recv hK hP (ci := 0) (q0 := (8 + a)) rfl (hf_act ha), fun U hU hW => ⟨rfl, by rw [hU]; exact hP, hX.warm hW⟩⟩ rfl rfl hl.1 rfl (lv_room (Nat.le_of_ble_eq_true rfl)) dX3_solves_2 ⟨Nat.zero_le _, Nat.zero_le _⟩) (fun r er => ?_)
  subst er
  refine lv_istore (lv' := [(4, .int (afS σ a b)), (0, .ref (A 0)), (1, .ref (A (8 + a))), (2, .int b), (3, .int (nI (n + 1)))]) hx hb dX3_solves_5 hl (by decide) rfl (fun ls hl => ?_)
  refine lv_aload_n hx hb dX3_solves_7 rfl (lv_at hl 1 rfl) ?_
  refine lv_aload_n hx hb dX3_solves_8 rfl (lv_at hl 2 rfl) ?_
  refine lv_iload hx hb dX3_solves_9 (lv_at hl 0 rfl) ?_
  refine lv_iconst (v := 0) hx hb dX3_solves_11 (by decide) ?_
  refine vp_callSi (W.runV (As := [.int (afS σ a b), .int 0]) (rest := [.ref (A 0)]) ⟨hx, hb, hml, hown, hts⟩ (c_X0_part l dC dI A cI cQ σ ha (afS σ a b) 0) (cwV 2 hts gX3_solves_X0_part rfl rfl rfl (by decide +kernel) ⟨show 0 + 1 ≤ 3 * (n + 1) + 3 by omega, show 8 + (3 + 11) + (0) ≤ 69 * (n + 1) + 153 by omega⟩) ⟨bl_P, va_recv hK hP (ci := 0) (q0 := (8 + a)) rfl (hf_act ha), fun U hU hW => ⟨rfl, by rw [hU]; exact hP, hX.warm hW⟩⟩ rfl rfl hl.1 rfl (lv_room (Nat.le_of_ble_eq_true rfl)) dX3_solves_12 ⟨Nat.zero_le _, Nat.zero_le _⟩) (fun r er => ?_)
  subst er
  refine lv_iload_n hx hb dX3_solves_15 rfl (lv_at hl 4 rfl) ?_
  refine lv_iconst (v := 1) hx hb dX3_solves_16 (by decide) ?_
  refine lv_isub hx hb dX3_solves_17 ?_
  refine lv_topi (fun y0 ey0 => ?_)
  obtain rfl : y0 = nI n := ey0.trans (nI_pred n)
  refine vp_callSi (W.runV (As := [.int (ptS σ a b 0), .int (nI n)]) (rest := []) ⟨hx, hb, hml, hown, hts⟩ (h (ptS σ a b 0)) (cwV 2 hts gX3_solves_X3_solved rfl rfl rfl (by decide +kernel) ⟨show 3 * n + 5 + 1 ≤ 3 * (n + 1) + 3 by omega, show 8 + (3 + 11) + (69 * n + 200) ≤ 69 * (n + 1) + 153 by omega⟩) ⟨bl_P, va_recv hK hP (ci := 3) (q0 := 0) rfl rfl, fun U hU hW => ⟨rfl, by rw [hU]; exact hP, hX.warm hW⟩⟩ rfl rfl hl.1 rfl (lv_room (Nat.le_of_ble_eq_true rfl)) dX3_solves_18 ⟨Nat.zero_le _, Nat.zero_le _⟩) (fun r er => ?_)
  subst er
  refine lv_if_eq (tgt := 45) hx hb dX3_solves_21 (by decide) (fun c21_1 => ?_) (fun c21_1 => ?_)
  · skip
    refine lv_iconst (v := 0) hx hb dX3_solves_45 (by decide) ?_
    exact W.zret (v := 0) hx hb hr rfl (fun t ht hW => ⟨_, rfl, by show _ = b2i (_ && _); rw [b2i_0.mp c21_1]; rfl, ht⟩) (fun q h => nomatch h) dX3_solves_46
  · skip
    refine lv_aload_n hx hb dX3_solves_24 rfl (lv_at hl 1 rfl) ?_
    refine lv_aload_n hx hb dX3_solves_25 rfl (lv_at hl 2 rfl) ?_
    refine lv_iload hx hb dX3_solves_26 (lv_at hl 0 rfl) ?_
    refine lv_iconst (v := 1) hx hb dX3_solves_28 (by decide) ?_
    refine vp_callSi (W.runV (As := [.int (afS σ a b), .int 1]) (rest := [.ref (A 0)]) ⟨hx, hb, hml, hown, hts⟩ (c_X0_part l dC dI A cI cQ σ ha (afS σ a b) 1) (cwV 2 hts gX3_solves_X0_part rfl rfl rfl (by decide +kernel) ⟨show 0 + 1 ≤ 3 * (n + 1) + 3 by omega, show 8 + (3 + 11) + (0) ≤ 69 * (n + 1) + 153 by omega⟩) ⟨bl_P, va_recv hK hP (ci := 0) (q0 := (8 + a)) rfl (hf_act ha), fun U hU hW => ⟨rfl, by rw [hU]; exact hP, hX.warm hW⟩⟩ rfl rfl hl.1 rfl (lv_room (Nat.le_of_ble_eq_true rfl)) dX3_solves_29 ⟨Nat.zero_le _, Nat.zero_le _⟩) (fun r er => ?_)
    subst er
    refine lv_iload_n hx hb dX3_solves_32 rfl (lv_at hl 4 rfl) ?_
    refine lv_iconst (v := 1) hx hb dX3_solves_33 (by decide) ?_
    refine lv_isub hx hb dX3_solves_34 ?_
    refine lv_topi (fun y2 ey2 => ?_)
    obtain rfl : y2 = nI n := ey2.trans (nI_pred n)
    refine vp_callSi (W.runV (As := [.int (ptS σ a b 1), .int (nI n)]) (rest := []) ⟨hx, hb, hml, hown, hts⟩ (h (ptS σ a b 1)) (cwV 2 hts gX3_solves_X3_solved rfl rfl rfl (by decide +kernel) ⟨show 3 * n + 5 + 1 ≤ 3 * (n + 1) + 3 by omega, show 8 + (3 + 11) + (69 * n + 200) ≤ 69 * (n + 1) + 153 by omega⟩) ⟨bl_P, va_recv hK hP (ci := 3) (q0 := 0) rfl rfl, fun U hU hW => ⟨rfl, by rw [hU]; exact hP, hX.warm hW⟩⟩ rfl rfl hl.1 rfl (lv_room (Nat.le_of_ble_eq_true rfl)) dX3_solves_35 ⟨Nat.zero_le _, Nat.zero_le _⟩) (fun r er => ?_)
    subst er
    refine lv_if_eq (tgt := 45) hx hb dX3_solves_38 (by decide) (fun c38_3 => ?_) (fun c38_3 => ?_)
    · skip
      refine lv_iconst (v := 0) hx hb dX3_solves_45 (by decide) ?_
      exact W.zret (v := 0) hx hb hr rfl (fun t ht hW => ⟨_, rfl, by show _ = b2i (_ && _); rw [b2i_n0.mp c21_1, b2i_0.mp c38_3]; rfl, ht⟩) (fun q h => nomatch h) dX3_solves_46
    · skip
      refine lv_iconst (v := 1) hx hb dX3_solves_41 (by decide) ?_
      refine lv_goto (tgt := 46) hx hb dX3_solves_42 (by decide) ?_
      exact W.zret (v := 1) hx hb hr rfl (fun t ht hW => ⟨_, rfl, by show _ = b2i (_ && _); rw [b2i_n0.mp c21_1, b2i_n0.mp c38_3]; rfl, ht⟩) (fun q h => nomatch h) dX3_solves_46
set_option maxHeartbeats 4000000 in
set_option maxRecDepth 100000 in
/-- leastAction(belief, n + 1) out of solves -/
theorem c_X3_la_of (l : Launch) (dC : Nat → ClassId) (dI : Nat → Nat → Nat) (A : Nat → Nat) (cI cQ : ClassId) (σ : HS) (n : Nat) (hn : n < 2 ^ 30) (h : ∀ a : Nat, a < 8 → ∀ b : Int32, Met l yX3_solves wsX3_solves ({ frames := 3 * (n + 1) + 3, cells := 0, slots := 0, locals := 69 * (n + 1) + 153 }) (va_Pc [.ref (A 0), .ref (A (8 + a)), .int b, .int (nI (n + 1))] (hfP dC dI A cI cQ σ)) (vp_Si (fun r => r = b2i (slS σ n (ptS σ a b 0) && slS σ n (ptS σ a b 1)))) 0 0 (fun _ => False)) (b : Int32) : Met l yX3_leastAction wsX3_leastAction ({ frames := 3 * (n + 1) + 4, cells := 0, slots := 0, locals := 69 * (n + 1) + 177 }) (va_Pc [.ref (A 0), .int b, .int (nI (n + 1))] (hfP dC dI A cI cQ σ)) (vp_Si (fun r => r = o2i (leS σ (n + 1) b))) 0 0 (fun _ => False) := by
  refine Met.ofW (cc := cX3_leastAction) (maxL := 4) (ret := (some .int)) (by decide) rfl ?_
  intro p e s m args below meth c s₁ B hml hv
  obtain ⟨rfl, hP, hX⟩ := hv
  have hx := B.exec
  have hb := B.bytes
  have hr := B.returns
  have hts := atoms_spec (ws := wsX3_leastAction) B.pre
  have hown : s.vm.findClass RX3 = some m.cls := findClass_of_methodNamed B.named
  have hlocks := B.notSynchronized
  have hK := hX.1
  have hinX3 : ∀ w ∈ wsX30, w ∈ wsX3_leastAction := fun _ h => List.mem_cons_of_mem _ (List.mem_append_left _ (List.mem_append_right _ h))
  have hl := lv_entry ([.ref (A 0), .int b, .int (nI (n + 1))]) (n := 4) (Nat.le_of_ble_eq_true rfl)
  rw [lg_entry_eq]
  generalize (lg_sl ([.ref (A 0), .int b, .int (nI (n + 1))]) ++ List.replicate (4 - (lg_sl ([.ref (A 0), .int b, .int (nI (n + 1))])).length) Slot.unset).toArray = ls at hl ⊢
  have hl : lv_has ls 4 [(0, .ref (A 0)), (1, .int b), (2, .int (nI (n + 1)))] := hl
  refine lv_iload_n hx hb dX3_leastAction_0 rfl (lv_at hl 2 rfl) ?_
  refine lv_if_gt (tgt := 6) hx hb dX3_leastAction_1 (by decide) (fun c1_0 => ?_) (fun c1_0 => ?_)
  · skip
    refine lv_iconst (v := 0) hx hb dX3_leastAction_6 (by decide) ?_
    refine lv_istore_n (lv' := [(3, .int 0), (0, .ref (A 0)), (1, .int b), (2, .int (nI (n + 1)))]) hx hb dX3_leastAction_7 rfl hl (by decide) rfl (fun ls hl => ?_)
    refine w_loopP (pc := 8) 8 (fun a ls => (∀ j, j < a → (fun a => usS σ a b && (slS σ n (ptS σ a b 0) && slS σ n (ptS σ a b 1))) j = false) ∧ lv_has ls 4 [(0, .ref (A 0)), (1, .int b), (2, .int (nI (n + 1))), (3, .int (nI a))]) ?_ 0 (Nat.zero_le _) ls ⟨fun j hj => absurd hj (by omega), lv_sub hl [1, 2, 3, 0] rfl⟩
    clear hl ls
    intro a ls hk hI ih
    obtain ⟨hj, hl⟩ := hI
    refine lv_iload_n hx hb dX3_leastAction_8 rfl (lv_at hl 3 rfl) ?_
    refine lv_bipush (v := 8) hx hb dX3_leastAction_9 (by decide) ?_
    refine lv_icmp_ge (tgt := 50) hx hb dX3_leastAction_11 (by decide) (fun c11_1 => ?_) (fun c11_1 => ?_)
    · skip
      obtain rfl := ctr_ge (N := 8) rfl (by decide) hk c11_1
      refine lv_iconst (v := (-1)) hx hb dX3_leastAction_50 (by decide) ?_
      exact W.iret hx hb hr (fun t ht hW => ⟨_, rfl, by show _ = o2i (first8 _); unfold first8; rw [find_no hj]; rfl, ht⟩) (fun q h => nomatch h) dX3_leastAction_51
    · skip
      have ha := ctr_lt (N := 8) rfl (by decide) hk c11_1
      refine lv_aload_n hx hb dX3_leastAction_14 rfl (lv_at hl 0 rfl) ?_
      refine va_get (D := (dC, dI)) (ci := 3) (v := .ref (A 1)) (C := RX3) (T := TX3) (N := 9) hx hb hts hinX3 hown hK hP 0 rfl rfl 0 (by decide) (hts _ (List.mem_of_getElem? (i := 1) rfl)) (fun _ h9 => h9) rfl dX3_leastAction_15 ?_
      refine lv_iload_n hx hb dX3_leastAction_18 rfl (lv_at hl 3 rfl) ?_
      refine va_aldq hx hb hK hP 1 1 rfl rfl (vp_in_nI (show a < 8 by omega) (by decide)) dX3_leastAction_19 ?_
      rw [nI_clamp (show a < 2 ^ 31 by have := (show a < 8 by omega); omega)]
      refine lv_iload_n hx hb dX3_leastAction_20 rfl (lv_at hl 1 rfl) ?_
      refine vp_callSi (W.runV (As := [.int b]) (rest := []) ⟨hx, hb, hml, hown, hts⟩ (c_X0_usable l dC dI A cI cQ σ ha b) (cwV 1 hts gX3_leastAction_X0_usable rfl rfl rfl (by decide +kernel) ⟨show 0 + 1 ≤ 3 * (n + 1) + 4 by omega, show 8 + (2 + 11) + (0) ≤ 69 * (n + 1) + 177 by omega⟩) ⟨bl_P, va_recv hK hP (ci := 0) (q0 := (8 + a)) rfl (hf_act ha), fun U hU hW => ⟨rfl, by rw [hU]; exact hP, hX.warm hW⟩⟩ rfl rfl hl.1 rfl (lv_room (Nat.le_of_ble_eq_true rfl)) dX3_leastAction_21 ⟨Nat.zero_le _, Nat.zero_le _⟩) (fun r er => ?_)
      subst er
      refine lv_if_eq (tgt := 44) hx hb dX3_leastAction_24 (by decide) (fun c24_2 => ?_) (fun c24_2 => ?_)
      · skip
        obtain ⟨y3, ey3⟩ : ∃ y : Int32, y = (nI a) + 1 := ⟨_, rfl⟩
        refine lv_iinc (v := y3) (lv' := [(3, .int y3), (0, .ref (A 0)), (1, .int b), (2, .int (nI (n + 1)))]) hx hb dX3_leastAction_44 hl (k := 3) rfl (by rw [ey3]; rfl) (by decide) rfl (fun ls hl => ?_)
        obtain rfl : y3 = nI (a + 1) := ey3.trans (nI_1 a)
        refine lv_goto (tgt := 8) hx hb dX3_leastAction_47 (by decide) ?_
        exact ih ls ⟨lt_s hj (by show (_ && _) = false; rw [b2i_0.mp c24_2]; rfl), lv_sub hl [1, 2, 3, 0] rfl⟩ ha
      · skip
        refine lv_aload_n hx hb dX3_leastAction_27 rfl (lv_at hl 0 rfl) ?_
        refine lv_aload_n hx hb dX3_leastAction_28 rfl (lv_at hl 0 rfl) ?_
        refine va_get (D := (dC, dI)) (ci := 3) (v := .ref (A 1)) (C := RX3) (T := TX3) (N := 9) hx hb hts hinX3 hown hK hP 0 rfl rfl 0 (by decide) (hts _ (List.mem_of_getElem? (i := 1) rfl)) (fun _ h9 => h9) rfl dX3_leastAction_29 ?_
        refine lv_iload_n hx hb dX3_leastAction_32 rfl (lv_at hl 3 rfl) ?_
        refine va_aldq hx hb hK hP 1 1 rfl rfl (vp_in_nI (show a < 8 by omega) (by decide)) dX3_leastAction_33 ?_
        rw [nI_clamp (show a < 2 ^ 31 by have := (show a < 8 by omega); omega)]
        refine lv_iload_n hx hb dX3_leastAction_34 rfl (lv_at hl 1 rfl) ?_
        refine lv_iload_n hx hb dX3_leastAction_35 rfl (lv_at hl 2 rfl) ?_
        refine vp_callSi (W.runV (As := [.ref (A (8 + a)), .int b, .int (nI (n + 1))]) (rest := []) ⟨hx, hb, hml, hown, hts⟩ (h a ha b) (cwV 3 hts gX3_leastAction_X3_solves rfl rfl rfl (by decide +kernel) ⟨show 3 * (n + 1) + 3 + 1 ≤ 3 * (n + 1) + 4 by omega, show 8 + (5 + 11) + (69 * (n + 1) + 153) ≤ 69 * (n + 1) + 177 by omega⟩) ⟨bl_P, va_recv hK hP (ci := 3) (q0 := 0) rfl rfl, fun U hU hW => ⟨rfl, by rw [hU]; exact hP, hX.warm hW⟩⟩ rfl rfl hl.1 rfl (lv_room (Nat.le_of_ble_eq_true rfl)) dX3_leastAction_36 ⟨Nat.zero_le _, Nat.zero_le _⟩) (fun r er => ?_)
        subst er
        refine lv_if_eq (tgt := 44) hx hb dX3_leastAction_39 (by decide) (fun c39_4 => ?_) (fun c39_4 => ?_)
        · skip
          obtain ⟨y5, ey5⟩ : ∃ y : Int32, y = (nI a) + 1 := ⟨_, rfl⟩
          refine lv_iinc (v := y5) (lv' := [(3, .int y5), (0, .ref (A 0)), (1, .int b), (2, .int (nI (n + 1)))]) hx hb dX3_leastAction_44 hl (k := 3) rfl (by rw [ey5]; rfl) (by decide) rfl (fun ls hl => ?_)
          obtain rfl : y5 = nI (a + 1) := ey5.trans (nI_1 a)
          refine lv_goto (tgt := 8) hx hb dX3_leastAction_47 (by decide) ?_
          exact ih ls ⟨lt_s hj (by show (_ && _) = false; rw [b2i_n0.mp c24_2, b2i_0.mp c39_4]; rfl), lv_sub hl [1, 2, 3, 0] rfl⟩ ha
        · skip
          refine lv_iload_n hx hb dX3_leastAction_42 rfl (lv_at hl 3 rfl) ?_
          exact W.iret hx hb hr (fun t ht hW => ⟨_, rfl, by show _ = o2i (first8 _); unfold first8; rw [find_at ha (show (fun a => usS σ a b && (slS σ n (ptS σ a b 0) && slS σ n (ptS σ a b 1))) a = true by show (_ && _) = true; rw [b2i_n0.mp c24_2, b2i_n0.mp c39_4]; rfl) hj]; rfl, ht⟩) (fun q h => nomatch h) dX3_leastAction_43
  · exact absurd (nI_lt (a := 0) (b := n + 1) (by omega) (by omega)) c1_0
/-- solved and leastAction to any depth -/
theorem c_X3_rec (l : Launch) (dC : Nat → ClassId) (dI : Nat → Nat → Nat) (A : Nat → Nat) (cI cQ : ClassId) (σ : HS) : ∀ n : Nat, n < 2 ^ 30 → (∀ b : Int32, Met l yX3_leastAction wsX3_leastAction ({ frames := 3 * n + 4, cells := 0, slots := 0, locals := 69 * n + 177 }) (va_Pc [.ref (A 0), .int b, .int (nI n)] (hfP dC dI A cI cQ σ)) (vp_Si (fun r => r = o2i (leS σ n b))) 0 0 (fun _ => False)) ∧ (∀ b : Int32, Met l yX3_solved wsX3_solved ({ frames := 3 * n + 5, cells := 0, slots := 0, locals := 69 * n + 200 }) (va_Pc [.ref (A 0), .int b, .int (nI n)] (hfP dC dI A cI cQ σ)) (vp_Si (fun r => r = b2i (slS σ n b))) 0 0 (fun _ => False)) := by
  intro n
  induction n with
  | zero => intro _; exact ⟨c_X3_la0 l dC dI A cI cQ σ, c_X3_solved_of l dC dI A cI cQ σ 0 (c_X3_la0 l dC dI A cI cQ σ)⟩
  | succ n ih =>
    intro hn
    have h1 := c_X3_la_of l dC dI A cI cQ σ n (by omega) (fun a ha b => c_X3_solves_of l dC dI A cI cQ σ n (ih (by omega)).2 ha b)
    exact ⟨h1, c_X3_solved_of l dC dI A cI cQ σ (n + 1) h1⟩
set_option maxHeartbeats 4000000 in
set_option maxRecDepth 100000 in
/-- fewest(belief, most) -/
theorem c_X3_fewest (l : Launch) (dC : Nat → ClassId) (dI : Nat → Nat → Nat) (A : Nat → Nat) (cI cQ : ClassId) (σ : HS) (b : Int32) {q : Nat} (hq : q ≤ 4) : Met l yX3_fewest wsX3_fewest ({ frames := 18, cells := 0, slots := 0, locals := 500 }) (va_Pc [.ref (A 0), .int b, .int (nI q)] (hfP dC dI A cI cQ σ)) (vp_Si (fun r => r = o2i (fewS σ b q))) 0 0 (fun _ => False) := by
  refine Met.ofW (cc := cX3_fewest) (maxL := 4) (ret := (some .int)) (by decide) rfl ?_
  intro p e s m args below meth c s₁ B hml hv
  obtain ⟨rfl, hP, hX⟩ := hv
  have hx := B.exec
  have hb := B.bytes
  have hr := B.returns
  have hts := atoms_spec (ws := wsX3_fewest) B.pre
  have hown : s.vm.findClass RX3 = some m.cls := findClass_of_methodNamed B.named
  have hlocks := B.notSynchronized
  have hK := hX.1
  have hinX3 : ∀ w ∈ wsX30, w ∈ wsX3_fewest := fun _ h => List.mem_cons_of_mem _ (List.mem_append_left _ (List.mem_append_right _ h))
  have hl := lv_entry ([.ref (A 0), .int b, .int (nI q)]) (n := 4) (Nat.le_of_ble_eq_true rfl)
  rw [lg_entry_eq]
  generalize (lg_sl ([.ref (A 0), .int b, .int (nI q)]) ++ List.replicate (4 - (lg_sl ([.ref (A 0), .int b, .int (nI q)])).length) Slot.unset).toArray = ls at hl ⊢
  have hl : lv_has ls 4 [(0, .ref (A 0)), (1, .int b), (2, .int (nI q))] := hl
  refine lv_iconst (v := 0) hx hb dX3_fewest_0 (by decide) ?_
  refine lv_istore_n (lv' := [(3, .int 0), (0, .ref (A 0)), (1, .int b), (2, .int (nI q))]) hx hb dX3_fewest_1 rfl hl (by decide) rfl (fun ls hl => ?_)
  refine w_loopP (pc := 2) (q + 1) (fun n ls => (∀ j, j < n → slS σ j b = false) ∧ lv_has ls 4 [(0, .ref (A 0)), (1, .int b), (2, .int (nI q)), (3, .int (nI n))]) ?_ 0 (Nat.zero_le _) ls ⟨fun j hj => absurd hj (by omega), lv_sub hl [1, 2, 3, 0] rfl⟩
  clear hl ls
  intro n ls hk hI ih
  obtain ⟨hj, hl⟩ := hI
  refine lv_iload_n hx hb dX3_fewest_2 rfl (lv_at hl 3 rfl) ?_
  refine lv_iload_n hx hb dX3_fewest_3 rfl (lv_at hl 2 rfl) ?_
  refine lv_icmp_gt (tgt := 24) hx hb dX3_fewest_4 (by decide) (fun c4_0 => ?_) (fun c4_0 => ?_)
  · skip
    have hn : n = q + 1 := by
      rcases Nat.lt_or_ge q n with z | z
      · omega
      · exact absurd c4_0 (nI_nlt z (by omega))
    subst hn
    refine lv_iconst (v := (-1)) hx hb dX3_fewest_24 (by decide) ?_
    exact W.iret hx hb hr (fun t ht hW => ⟨_, rfl, by show _ = o2i (fewS σ b q); unfold fewS; rw [find_no hj]; rfl, ht⟩) (fun q h => nomatch h) dX3_fewest_25
  · skip
    have hn : n ≤ q := by
      rcases Nat.lt_or_ge q n with z | z
      · exact absurd (nI_lt z (by omega)) c4_0
      · exact z
    refine lv_aload_n hx hb dX3_fewest_7 rfl (lv_at hl 0 rfl) ?_
    refine lv_iload_n hx hb dX3_fewest_8 rfl (lv_at hl 1 rfl) ?_
    refine lv_iload_n hx hb dX3_fewest_9 rfl (lv_at hl 3 rfl) ?_
    refine vp_callSi (W.runV (As := [.int b, .int (nI n)]) (rest := []) ⟨hx, hb, hml, hown, hts⟩ ((c_X3_rec l dC dI A cI cQ σ n (by omega)).2 b) (cwV 2 hts gX3_fewest_X3_solved rfl rfl rfl (by decide +kernel) ⟨show 3 * n + 5 + 1 ≤ 18 by omega, show 8 + (3 + 11) + (69 * n + 200) ≤ 500 by omega⟩) ⟨bl_P, va_recv hK hP (ci := 3) (q0 := 0) rfl rfl, fun U hU hW => ⟨rfl, by rw [hU]; exact hP, hX.warm hW⟩⟩ rfl rfl hl.1 rfl (lv_room (Nat.le_of_ble_eq_true rfl)) dX3_fewest_10 ⟨Nat.zero_le _, Nat.zero_le _⟩) (fun r er => ?_)
    subst er
    refine lv_if_eq (tgt := 18) hx hb dX3_fewest_13 (by decide) (fun c13_1 => ?_) (fun c13_1 => ?_)
    · skip
      obtain ⟨y2, ey2⟩ : ∃ y : Int32, y = (nI n) + 1 := ⟨_, rfl⟩
      refine lv_iinc (v := y2) (lv' := [(3, .int y2), (0, .ref (A 0)), (1, .int b), (2, .int (nI q))]) hx hb dX3_fewest_18 hl (k := 3) rfl (by rw [ey2]; rfl) (by decide) rfl (fun ls hl => ?_)
      obtain rfl : y2 = nI (n + 1) := ey2.trans (nI_1 n)
      refine lv_goto (tgt := 2) hx hb dX3_fewest_21 (by decide) ?_
      exact ih ls ⟨lt_s hj (b2i_0.mp c13_1), lv_sub hl [1, 2, 3, 0] rfl⟩ (by omega)
    · skip
      refine lv_iload_n hx hb dX3_fewest_16 rfl (lv_at hl 3 rfl) ?_
      exact W.iret hx hb hr (fun t ht hW => ⟨_, rfl, by show _ = o2i (fewS σ b q); unfold fewS; rw [find_at (show n < q + 1 by omega) (b2i_n0.mp c13_1) hj]; rfl, ht⟩) (fun q h => nomatch h) dX3_fewest_17
