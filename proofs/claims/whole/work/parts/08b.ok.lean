set_option maxHeartbeats 4000000 in
set_option maxRecDepth 100000 in
/-- Integer.bitCount -/
theorem c_bitCount (l : Launch) (x : Int32) : Met l yJ6_bitCount_0f7a4 wsJ6_bitCount_0f7a4 ({ frames := 0, cells := 0, slots := 0, locals := 0 }) (va_Pc [.int x] (fun _ => True)) (vp_Si (fun r => r = bcF x)) 0 0 (fun _ => False) := by
  refine Met.ofW (cc := cJ6_bitCount_0f7a4) (maxL := 1) (ret := (some .int)) (by decide) rfl ?_
  intro p e s m args below meth c s₁ B hml hv
  obtain ⟨rfl, -⟩ := hv
  have hx := B.exec
  have hb := B.bytes
  have hr := B.returns
  have hts := atoms_spec (ws := wsJ6_bitCount_0f7a4) B.pre
  have hown : s.vm.findClass RJ6 = some m.cls := findClass_of_methodNamed B.named
  have hlocks := B.notSynchronized
  have hl := lv_entry ([.int x]) (n := 1) (Nat.le_of_ble_eq_true rfl)
  rw [lg_entry_eq]
  generalize (lg_sl ([.int x]) ++ List.replicate (1 - (lg_sl ([.int x])).length) Slot.unset).toArray = ls at hl ⊢
  have hl : lv_has ls 1 [(0, .int x)] := hl
  refine lv_iload_n hx hb dJ6_bitCount_0f7a4_0 rfl (lv_at hl 0 rfl) ?_
  refine lv_iload_n hx hb dJ6_bitCount_0f7a4_1 rfl (lv_at hl 0 rfl) ?_
  refine lv_iconst (v := 1) hx hb dJ6_bitCount_0f7a4_2 (by decide) ?_
  refine lv_iushr (v := (Int32.toUInt32 x >>> (Int32.toUInt32 1 &&& Int32.toUInt32 31)).toInt32) hx hb dJ6_bitCount_0f7a4_3 rfl ?_
  refine lv_ldcw (v := (1431655765)) hx hb hown (hts _ (List.mem_of_getElem? (i := 1) rfl)) dJ6_bitCount_0f7a4_4 ?_
  refine lv_iand hx hb dJ6_bitCount_0f7a4_7 ?_
  refine lv_isub hx hb dJ6_bitCount_0f7a4_8 ?_
  refine lv_topi (fun y0 ey0 => ?_)
  obtain rfl : y0 = bc1 x := ey0.trans (rfl)
  refine lv_istore_n (lv' := [(0, .int (bc1 x))]) hx hb dJ6_bitCount_0f7a4_9 rfl hl (by decide) rfl (fun ls hl => ?_)
  refine lv_iload_n hx hb dJ6_bitCount_0f7a4_10 rfl (lv_at hl 0 rfl) ?_
  refine lv_ldcw (v := (858993459)) hx hb hown (hts _ (List.mem_of_getElem? (i := 2) rfl)) dJ6_bitCount_0f7a4_11 ?_
  refine lv_iand hx hb dJ6_bitCount_0f7a4_14 ?_
  refine lv_iload_n hx hb dJ6_bitCount_0f7a4_15 rfl (lv_at hl 0 rfl) ?_
  refine lv_iconst (v := 2) hx hb dJ6_bitCount_0f7a4_16 (by decide) ?_
  refine lv_iushr (v := (Int32.toUInt32 (bc1 x) >>> (Int32.toUInt32 2 &&& Int32.toUInt32 31)).toInt32) hx hb dJ6_bitCount_0f7a4_17 rfl ?_
  refine lv_ldcw (v := (858993459)) hx hb hown (hts _ (List.mem_of_getElem? (i := 2) rfl)) dJ6_bitCount_0f7a4_18 ?_
  refine lv_iand hx hb dJ6_bitCount_0f7a4_21 ?_
  refine lv_iadd hx hb dJ6_bitCount_0f7a4_22 ?_
  refine lv_topi (fun y1 ey1 => ?_)
  obtain rfl : y1 = bc2 (bc1 x) := ey1.trans (rfl)
  refine lv_istore_n (lv' := [(0, .int (bc2 (bc1 x)))]) hx hb dJ6_bitCount_0f7a4_23 rfl hl (by decide) rfl (fun ls hl => ?_)
  refine lv_iload_n hx hb dJ6_bitCount_0f7a4_24 rfl (lv_at hl 0 rfl) ?_
  refine lv_iload_n hx hb dJ6_bitCount_0f7a4_25 rfl (lv_at hl 0 rfl) ?_
  refine lv_iconst (v := 4) hx hb dJ6_bitCount_0f7a4_26 (by decide) ?_
  refine lv_iushr (v := (Int32.toUInt32 (bc2 (bc1 x)) >>> (Int32.toUInt32 4 &&& Int32.toUInt32 31)).toInt32) hx hb dJ6_bitCount_0f7a4_27 rfl ?_
  refine lv_iadd hx hb dJ6_bitCount_0f7a4_28 ?_
  refine lv_ldcw (v := (252645135)) hx hb hown (hts _ (List.mem_of_getElem? (i := 3) rfl)) dJ6_bitCount_0f7a4_29 ?_
  refine lv_iand hx hb dJ6_bitCount_0f7a4_32 ?_
  refine lv_topi (fun y2 ey2 => ?_)
  obtain rfl : y2 = bc3 (bc2 (bc1 x)) := ey2.trans (rfl)
  refine lv_istore_n (lv' := [(0, .int (bc3 (bc2 (bc1 x))))]) hx hb dJ6_bitCount_0f7a4_33 rfl hl (by decide) rfl (fun ls hl => ?_)
  refine lv_iload_n hx hb dJ6_bitCount_0f7a4_34 rfl (lv_at hl 0 rfl) ?_
  refine lv_iload_n hx hb dJ6_bitCount_0f7a4_35 rfl (lv_at hl 0 rfl) ?_
  refine lv_bipush (v := 8) hx hb dJ6_bitCount_0f7a4_36 (by decide) ?_
  refine lv_iushr (v := (Int32.toUInt32 (bc3 (bc2 (bc1 x))) >>> (Int32.toUInt32 8 &&& Int32.toUInt32 31)).toInt32) hx hb dJ6_bitCount_0f7a4_38 rfl ?_
  refine lv_iadd hx hb dJ6_bitCount_0f7a4_39 ?_
  refine lv_topi (fun y3 ey3 => ?_)
  obtain rfl : y3 = bc4 (bc3 (bc2 (bc1 x))) := ey3.trans (rfl)
  refine lv_istore_n (lv' := [(0, .int (bc4 (bc3 (bc2 (bc1 x)))))]) hx hb dJ6_bitCount_0f7a4_40 rfl hl (by decide) rfl (fun ls hl => ?_)
  refine lv_iload_n hx hb dJ6_bitCount_0f7a4_41 rfl (lv_at hl 0 rfl) ?_
  refine lv_iload_n hx hb dJ6_bitCount_0f7a4_42 rfl (lv_at hl 0 rfl) ?_
  refine lv_bipush (v := 16) hx hb dJ6_bitCount_0f7a4_43 (by decide) ?_
  refine lv_iushr (v := (Int32.toUInt32 (bc4 (bc3 (bc2 (bc1 x)))) >>> (Int32.toUInt32 16 &&& Int32.toUInt32 31)).toInt32) hx hb dJ6_bitCount_0f7a4_45 rfl ?_
  refine lv_iadd hx hb dJ6_bitCount_0f7a4_46 ?_
  refine lv_topi (fun y4 ey4 => ?_)
  obtain rfl : y4 = bc5 (bc4 (bc3 (bc2 (bc1 x)))) := ey4.trans (rfl)
  refine lv_istore_n (lv' := [(0, .int (bc5 (bc4 (bc3 (bc2 (bc1 x))))))]) hx hb dJ6_bitCount_0f7a4_47 rfl hl (by decide) rfl (fun ls hl => ?_)
  refine lv_iload_n hx hb dJ6_bitCount_0f7a4_48 rfl (lv_at hl 0 rfl) ?_
  refine lv_bipush (v := 63) hx hb dJ6_bitCount_0f7a4_49 (by decide) ?_
  refine lv_iand hx hb dJ6_bitCount_0f7a4_51 ?_
  exact W.iret hx hb hr (fun t ht hW => ⟨_, rfl, rfl, ht⟩) (fun q h => nomatch h) dJ6_bitCount_0f7a4_52
set_option maxHeartbeats 4000000 in
set_option maxRecDepth 100000 in
/-- start -/
theorem o_X3_start (l : Launch) (dC : Nat → ClassId) (dI : Nat → Nat → Nat) (A : Nat → Nat) (cI cQ : ClassId) (σ : HS)   : Met l yX3_start wsX3_start RMo (va_Pc [.ref (A 0)] (hfP dC dI A cI cQ σ)) (vp_Si (fun r => r = stS σ)) 0 0 (fun _ => False) := by
  refine Met.ofW (cc := cX3_start) (maxL := 1) (ret := (some .int)) (by decide) rfl ?_
  intro p e s m args below meth c s₁ B hml hv
  obtain ⟨rfl, hP, hX⟩ := hv
  have hx := B.exec
  have hb := B.bytes
  have hr := B.returns
  have hts := atoms_spec (ws := wsX3_start) B.pre
  have hown : s.vm.findClass RX3 = some m.cls := findClass_of_methodNamed B.named
  have hlocks := B.notSynchronized
  have hK := hX.1
  have hinX3 : ∀ w ∈ wsX30, w ∈ wsX3_start := fun _ h => List.mem_cons_of_mem _ (List.mem_append_right _ h)
  have hl := lv_entry ([.ref (A 0)]) (n := 1) (Nat.le_of_ble_eq_true rfl)
  rw [lg_entry_eq]
  generalize (lg_sl ([.ref (A 0)]) ++ List.replicate (1 - (lg_sl ([.ref (A 0)])).length) Slot.unset).toArray = ls at hl ⊢
  have hl : lv_has ls 1 [(0, .ref (A 0))] := hl
  refine lv_aload_n hx hb dX3_start_0 rfl (lv_at hl 0 rfl) ?_
  refine va_get (D := (dC, dI)) (ci := 3) (v := .int (stS σ)) (C := RX3) (T := TX3) (N := 9) hx hb hts hinX3 hown hK hP 0 rfl rfl 5 (by decide) (hts _ (List.mem_of_getElem? (i := 1) rfl)) (fun _ h9 => h9) rfl dX3_start_1 ?_
  exact W.iret hx hb hr (fun t ht hW => ⟨_, rfl, rfl, ht⟩) (fun q h => nomatch h) dX3_start_4
set_option maxHeartbeats 4000000 in
set_option maxRecDepth 100000 in
/-- nodes -/
theorem o_X3_nodes (l : Launch) (dC : Nat → ClassId) (dI : Nat → Nat → Nat) (A : Nat → Nat) (cI cQ : ClassId) (σ : HS)   : Met l yX3_nodes wsX3_nodes RMo (va_Pc [.ref (A 0)] (hfP dC dI A cI cQ σ)) (vp_Si (fun r => r = ctS σ)) 0 0 (fun _ => False) := by
  refine Met.ofW (cc := cX3_nodes) (maxL := 1) (ret := (some .int)) (by decide) rfl ?_
  intro p e s m args below meth c s₁ B hml hv
  obtain ⟨rfl, hP, hX⟩ := hv
  have hx := B.exec
  have hb := B.bytes
  have hr := B.returns
  have hts := atoms_spec (ws := wsX3_nodes) B.pre
  have hown : s.vm.findClass RX3 = some m.cls := findClass_of_methodNamed B.named
  have hlocks := B.notSynchronized
  have hK := hX.1
  have hinX3 : ∀ w ∈ wsX30, w ∈ wsX3_nodes := fun _ h => List.mem_cons_of_mem _ (List.mem_append_left _ (List.mem_append_right _ h))
  have hinX2 : ∀ w ∈ wsX20, w ∈ wsX3_nodes := fun _ h => List.mem_cons_of_mem _ (List.mem_append_right _ h)
  have hl := lv_entry ([.ref (A 0)]) (n := 1) (Nat.le_of_ble_eq_true rfl)
  rw [lg_entry_eq]
  generalize (lg_sl ([.ref (A 0)]) ++ List.replicate (1 - (lg_sl ([.ref (A 0)])).length) Slot.unset).toArray = ls at hl ⊢
  have hl : lv_has ls 1 [(0, .ref (A 0))] := hl
  refine lv_aload_n hx hb dX3_nodes_0 rfl (lv_at hl 0 rfl) ?_
  refine va_get (D := (dC, dI)) (ci := 3) (v := .ref (A 2)) (C := RX3) (T := TX3) (N := 9) hx hb hts hinX3 hown hK hP 0 rfl rfl 1 (by decide) (hts _ (List.mem_of_getElem? (i := 1) rfl)) (fun _ h9 => h9) rfl dX3_nodes_1 ?_
  refine va_getN (D := (dC, dI)) (host := RX3) (ci := 2) (v := .int (ctS σ)) (C := RX2) (T := TX2) (N := 2) hx hb hts hinX2 hown hK hP 2 rfl rfl 1 (by decide) (va_Nw.use rfl (hX.2.1 _ (List.mem_of_getElem? (i := 1) rfl))) (fun _ h9 => h9) rfl dX3_nodes_4 ?_
  exact W.iret hx hb hr (fun t ht hW => ⟨_, rfl, rfl, ht⟩) (fun q h => nomatch h) dX3_nodes_7
set_option maxHeartbeats 4000000 in
set_option maxRecDepth 100000 in
/-- made -/
theorem o_X3_made (l : Launch) (dC : Nat → ClassId) (dI : Nat → Nat → Nat) (A : Nat → Nat) (cI cQ : ClassId) (σ : HS)   : Met l yX3_made wsX3_made RMo (va_Pc [.ref (A 0)] (hfP dC dI A cI cQ σ)) (vp_Si (fun r => r = maS σ)) 0 0 (fun _ => False) := by
  refine Met.ofW (cc := cX3_made) (maxL := 1) (ret := (some .int)) (by decide) rfl ?_
  intro p e s m args below meth c s₁ B hml hv
  obtain ⟨rfl, hP, hX⟩ := hv
  have hx := B.exec
  have hb := B.bytes
  have hr := B.returns
  have hts := atoms_spec (ws := wsX3_made) B.pre
  have hown : s.vm.findClass RX3 = some m.cls := findClass_of_methodNamed B.named
  have hlocks := B.notSynchronized
  have hK := hX.1
  have hinX3 : ∀ w ∈ wsX30, w ∈ wsX3_made := fun _ h => List.mem_cons_of_mem _ (List.mem_append_right _ h)
  have hl := lv_entry ([.ref (A 0)]) (n := 1) (Nat.le_of_ble_eq_true rfl)
  rw [lg_entry_eq]
  generalize (lg_sl ([.ref (A 0)]) ++ List.replicate (1 - (lg_sl ([.ref (A 0)])).length) Slot.unset).toArray = ls at hl ⊢
  have hl : lv_has ls 1 [(0, .ref (A 0))] := hl
  refine lv_aload_n hx hb dX3_made_0 rfl (lv_at hl 0 rfl) ?_
  refine va_get (D := (dC, dI)) (ci := 3) (v := .int (maS σ)) (C := RX3) (T := TX3) (N := 9) hx hb hts hinX3 hown hK hP 0 rfl rfl 8 (by decide) (hts _ (List.mem_of_getElem? (i := 1) rfl)) (fun _ h9 => h9) rfl dX3_made_1 ?_
  exact W.iret hx hb hr (fun t ht hW => ⟨_, rfl, rfl, ht⟩) (fun q h => nomatch h) dX3_made_4
set_option maxHeartbeats 4000000 in
set_option maxRecDepth 100000 in
/-- behind -/
theorem o_X3_behind (l : Launch) (dC : Nat → ClassId) (dI : Nat → Nat → Nat) (A : Nat → Nat) (cI cQ : ClassId) (σ : HS) {a : Nat} (ha : a < 8) (b : Int32) (h1 : ¬ acS σ a 0 = 0) (h2 : ¬ b < 0 ∧ b ≤ 65535) (h : usS σ a b = true) : Met l yX3_behind wsX3_behind RMo (va_Pc [.ref (A 0), .int (nI a), .int b] (hfP dC dI A cI cQ σ)) (vp_Si (fun r => r = afS σ a b)) 0 0 (fun _ => False) := by
  refine Met.ofW (cc := cX3_behind) (maxL := 3) (ret := (some .int)) (by decide) rfl ?_
  intro p e s m args below meth c s₁ B hml hv
  obtain ⟨rfl, hP, hX⟩ := hv
  have hx := B.exec
  have hb := B.bytes
  have hr := B.returns
  have hts := atoms_spec (ws := wsX3_behind) B.pre
  have hown : s.vm.findClass RX3 = some m.cls := findClass_of_methodNamed B.named
  have hlocks := B.notSynchronized
  have hK := hX.1
  have hinX3 : ∀ w ∈ wsX30, w ∈ wsX3_behind := fun _ h => List.mem_cons_of_mem _ (List.mem_append_left _ (List.mem_append_left _ (List.mem_append_left _ (List.mem_append_left _ (List.mem_append_left _ (List.mem_append_right _ h))))))
  have hinX0 : ∀ w ∈ wsX00, w ∈ wsX3_behind := fun _ h => List.mem_cons_of_mem _ (List.mem_append_left _ (List.mem_append_left _ (List.mem_append_left _ (List.mem_append_left _ (List.mem_append_right _ h)))))
  have hl := lv_entry ([.ref (A 0), .int (nI a), .int b]) (n := 3) (Nat.le_of_ble_eq_true rfl)
  rw [lg_entry_eq]
  generalize (lg_sl ([.ref (A 0), .int (nI a), .int b]) ++ List.replicate (3 - (lg_sl ([.ref (A 0), .int (nI a), .int b])).length) Slot.unset).toArray = ls at hl ⊢
  have hl : lv_has ls 3 [(0, .ref (A 0)), (1, .int (nI a)), (2, .int b)] := hl
  refine lv_iload_n hx hb dX3_behind_0 rfl (lv_at hl 1 rfl) ?_
  refine va_csv (W.runS (As := [.int (nI a)]) (rest := []) ⟨hx, hb, hml, hown, hts⟩ (k_X3_needNumber l (nI a) ⟨nI_pos (by omega), nI_lt (b := 8) ha (by decide)⟩) (va_cwS 1 hts gX3_behind_X3_needNumber rfl rfl rfl (by decide +kernel) ⟨Nat.le_of_ble_eq_true rfl, Nat.le_of_ble_eq_true rfl⟩) ⟨bl_T, fun U hU hW => ⟨rfl, trivial⟩⟩ rfl rfl hl.1 rfl (lv_room (Nat.le_of_ble_eq_true rfl)) dX3_behind_1 ⟨Nat.zero_le _, Nat.zero_le _⟩) (fun _ => ?_)
  refine lv_aload_n hx hb dX3_behind_4 rfl (lv_at hl 0 rfl) ?_
  refine lv_iload_n hx hb dX3_behind_5 rfl (lv_at hl 1 rfl) ?_
  refine va_csv (W.runV (As := [.int (nI a)]) (rest := []) ⟨hx, hb, hml, hown, hts⟩ (k_X3_needThere l dC dI A cI cQ σ (a := a) ha h1) (cwV 1 hts gX3_behind_X3_needThere rfl rfl rfl (by decide +kernel) ⟨Nat.le_of_ble_eq_true rfl, Nat.le_of_ble_eq_true rfl⟩) ⟨bl_P, va_recv hK hP (ci := 3) (q0 := 0) rfl rfl, fun U hU hW => ⟨rfl, by rw [hU]; exact hP, hX.warm hW⟩⟩ rfl rfl hl.1 rfl (lv_room (Nat.le_of_ble_eq_true rfl)) dX3_behind_6 ⟨Nat.zero_le _, Nat.zero_le _⟩) (fun _ => ?_)
  refine lv_iload_n hx hb dX3_behind_9 rfl (lv_at hl 2 rfl) ?_
  refine lv_if_lt (tgt := 19) hx hb dX3_behind_10 (by decide) (fun c10_0 => ?_) (fun c10_0 => ?_)
  · exact absurd c10_0 h2.1
  · skip
    refine lv_iload_n hx hb dX3_behind_13 rfl (lv_at hl 2 rfl) ?_
    refine lv_ldc (v := (65535)) hx hb hown (hts _ (List.mem_of_getElem? (i := 5) rfl)) dX3_behind_14 ?_
    refine lv_icmp_le (tgt := 29) hx hb dX3_behind_16 (by decide) (fun c16_1 => ?_) (fun c16_1 => ?_)
    · skip
      refine lv_aload_n hx hb dX3_behind_29 rfl (lv_at hl 0 rfl) ?_
      refine va_get (D := (dC, dI)) (ci := 3) (v := .ref (A 1)) (C := RX3) (T := TX3) (N := 9) hx hb hts hinX3 hown hK hP 0 rfl rfl 0 (by decide) (hts _ (List.mem_of_getElem? (i := 6) rfl)) (fun _ h9 => h9) rfl dX3_behind_30 ?_
      refine lv_iload_n hx hb dX3_behind_33 rfl (lv_at hl 1 rfl) ?_
      refine va_aldq hx hb hK hP 1 1 rfl rfl (vp_in_nI (show a < 8 by omega) (by decide)) dX3_behind_34 ?_
      rw [nI_clamp (show a < 2 ^ 31 by have := (show a < 8 by omega); omega)]
      refine lv_iload_n hx hb dX3_behind_35 rfl (lv_at hl 2 rfl) ?_
      refine vp_callSi (W.runV (As := [.int b]) (rest := []) ⟨hx, hb, hml, hown, hts⟩ (c_X0_usable l dC dI A cI cQ σ ha b) (cwV 1 hts gX3_behind_X0_usable rfl rfl rfl (by decide +kernel) ⟨Nat.le_of_ble_eq_true rfl, Nat.le_of_ble_eq_true rfl⟩) ⟨bl_P, va_recv hK hP (ci := 0) (q0 := (8 + a)) rfl (hf_act ha), fun U hU hW => ⟨rfl, by rw [hU]; exact hP, hX.warm hW⟩⟩ rfl rfl hl.1 rfl (lv_room (Nat.le_of_ble_eq_true rfl)) dX3_behind_36 ⟨Nat.zero_le _, Nat.zero_le _⟩) (fun r er => ?_)
      obtain rfl : r = b2i (usS σ a b) := er
      refine lv_if_ne (tgt := 52) hx hb dX3_behind_39 (by decide) (fun c39_2 => ?_) (fun c39_2 => ?_)
      · skip
        refine lv_aload_n hx hb dX3_behind_52 rfl (lv_at hl 0 rfl) ?_
        refine va_get (D := (dC, dI)) (ci := 3) (v := .ref (A 1)) (C := RX3) (T := TX3) (N := 9) hx hb hts hinX3 hown hK hP 0 rfl rfl 0 (by decide) (hts _ (List.mem_of_getElem? (i := 6) rfl)) (fun _ h9 => h9) rfl dX3_behind_53 ?_
        refine lv_iload_n hx hb dX3_behind_56 rfl (lv_at hl 1 rfl) ?_
        refine va_aldq hx hb hK hP 1 1 rfl rfl (vp_in_nI (show a < 8 by omega) (by decide)) dX3_behind_57 ?_
        rw [nI_clamp (show a < 2 ^ 31 by have := (show a < 8 by omega); omega)]
        refine lv_iload_n hx hb dX3_behind_58 rfl (lv_at hl 2 rfl) ?_
        refine vp_callSi (W.runV (As := [.int b]) (rest := []) ⟨hx, hb, hml, hown, hts⟩ (c_X0_after l dC dI A cI cQ σ ha b) (cwV 1 hts gX3_behind_X0_after rfl rfl rfl (by decide +kernel) ⟨Nat.le_of_ble_eq_true rfl, Nat.le_of_ble_eq_true rfl⟩) ⟨bl_P, va_recv hK hP (ci := 0) (q0 := (8 + a)) rfl (hf_act ha), fun U hU hW => ⟨rfl, by rw [hU]; exact hP, hX.warm hW⟩⟩ rfl rfl hl.1 rfl (lv_room (Nat.le_of_ble_eq_true rfl)) dX3_behind_59 ⟨Nat.zero_le _, Nat.zero_le _⟩) (fun r er => ?_)
        obtain rfl : r = afS σ a b := er
        exact W.iret hx hb hr (fun t ht hW => ⟨_, rfl, rfl, ht⟩) (fun q h => nomatch h) dX3_behind_62
      · exact absurd (b2i_0.mp c39_2) (by rw [h]; decide)
    · exact absurd h2.2 c16_1
set_option maxHeartbeats 4000000 in
set_option maxRecDepth 100000 in
/-- least -/
theorem o_X3_least (l : Launch) (dC : Nat → ClassId) (dI : Nat → Nat → Nat) (A : Nat → Nat) (cI cQ : ClassId) (σ : HS) (b : Int32) {q : Nat} (hq : q ≤ 4) {n : Nat} (h1 : ¬ b < 1 ∧ b ≤ 65535) (h : fewS σ b q = some n) : Met l yX3_least wsX3_least RMo (va_Pc [.ref (A 0), .int b, .int (nI q)] (hfP dC dI A cI cQ σ)) (vp_Si (fun r => r = nI n)) 0 0 (fun _ => False) := by
  refine Met.ofW (cc := cX3_least) (maxL := 3) (ret := (some .int)) (by decide) rfl ?_
  intro p e s m args below meth c s₁ B hml hv
  obtain ⟨rfl, hP, hX⟩ := hv
  have hx := B.exec
  have hb := B.bytes
  have hr := B.returns
  have hts := atoms_spec (ws := wsX3_least) B.pre
  have hown : s.vm.findClass RX3 = some m.cls := findClass_of_methodNamed B.named
  have hlocks := B.notSynchronized
  have hK := hX.1
  have hinX3 : ∀ w ∈ wsX30, w ∈ wsX3_least := fun _ h => List.mem_cons_of_mem _ (List.mem_append_left _ (List.mem_append_left _ (List.mem_append_left _ (List.mem_append_right _ h))))
  have hl := lv_entry ([.ref (A 0), .int b, .int (nI q)]) (n := 3) (Nat.le_of_ble_eq_true rfl)
  rw [lg_entry_eq]
  generalize (lg_sl ([.ref (A 0), .int b, .int (nI q)]) ++ List.replicate (3 - (lg_sl ([.ref (A 0), .int b, .int (nI q)])).length) Slot.unset).toArray = ls at hl ⊢
  have hl : lv_has ls 3 [(0, .ref (A 0)), (1, .int b), (2, .int (nI q))] := hl
  refine lv_iload_n hx hb dX3_least_0 rfl (lv_at hl 1 rfl) ?_
  refine lv_iconst (v := 1) hx hb dX3_least_1 (by decide) ?_
  refine lv_icmp_lt (tgt := 11) hx hb dX3_least_2 (by decide) (fun c2_0 => ?_) (fun c2_0 => ?_)
  · exact absurd c2_0 h1.1
  · skip
    refine lv_iload_n hx hb dX3_least_5 rfl (lv_at hl 1 rfl) ?_
    refine lv_ldc (v := (65535)) hx hb hown (hts _ (List.mem_of_getElem? (i := 3) rfl)) dX3_least_6 ?_
    refine lv_icmp_le (tgt := 21) hx hb dX3_least_8 (by decide) (fun c8_1 => ?_) (fun c8_1 => ?_)
    · skip
      refine lv_iload_n hx hb dX3_least_21 rfl (lv_at hl 2 rfl) ?_
      refine va_csv (W.runS (As := [.int (nI q)]) (rest := []) ⟨hx, hb, hml, hown, hts⟩ (k_X3_needDepth l (nI q) ⟨nI_pos (by omega), nI_le (b := 4) hq (by decide)⟩) (va_cwS 1 hts gX3_least_X3_needDepth rfl rfl rfl (by decide +kernel) ⟨Nat.le_of_ble_eq_true rfl, Nat.le_of_ble_eq_true rfl⟩) ⟨bl_T, fun U hU hW => ⟨rfl, trivial⟩⟩ rfl rfl hl.1 rfl (lv_room (Nat.le_of_ble_eq_true rfl)) dX3_least_22 ⟨Nat.zero_le _, Nat.zero_le _⟩) (fun _ => ?_)
      refine lv_aload_n hx hb dX3_least_25 rfl (lv_at hl 0 rfl) ?_
      refine lv_iload_n hx hb dX3_least_26 rfl (lv_at hl 1 rfl) ?_
      refine lv_iload_n hx hb dX3_least_27 rfl (lv_at hl 2 rfl) ?_
      refine vp_callSi (W.runV (As := [.int b, .int (nI q)]) (rest := []) ⟨hx, hb, hml, hown, hts⟩ (c_X3_fewest l dC dI A cI cQ σ b (q := q) hq) (cwV 2 hts gX3_least_X3_fewest rfl rfl rfl (by decide +kernel) ⟨Nat.le_of_ble_eq_true rfl, Nat.le_of_ble_eq_true rfl⟩) ⟨bl_P, va_recv hK hP (ci := 3) (q0 := 0) rfl rfl, fun U hU hW => ⟨rfl, by rw [hU]; exact hP, hX.warm hW⟩⟩ rfl rfl hl.1 rfl (lv_room (Nat.le_of_ble_eq_true rfl)) dX3_least_28 ⟨Nat.zero_le _, Nat.zero_le _⟩) (fun r er => ?_)
      obtain rfl : r = o2i (fewS σ b q) := er
      refine vp_callSi (W.runS (As := [.int (o2i (fewS σ b q))]) (rest := []) ⟨hx, hb, hml, hown, hts⟩ (k_X3_needSolved l (o2i (fewS σ b q)) (fun z => by have z2 := (o2i_none (o := fewS σ b q) (fun a h9 => by have := few_le h9; omega)).mp z; rw [show fewS σ b q = some n from h] at z2; cases z2)) (va_cwS 1 hts gX3_least_X3_needSolved rfl rfl rfl (by decide +kernel) ⟨Nat.le_of_ble_eq_true rfl, Nat.le_of_ble_eq_true rfl⟩) ⟨bl_T, fun U hU hW => ⟨rfl, trivial⟩⟩ rfl rfl hl.1 rfl (lv_room (Nat.le_of_ble_eq_true rfl)) dX3_least_31 ⟨Nat.zero_le _, Nat.zero_le _⟩) (fun r er => ?_)
      subst er
      rw [show o2i (fewS σ b q) = nI n by rw [show fewS σ b q = some n from h]; rfl]
      exact W.iret hx hb hr (fun t ht hW => ⟨_, rfl, rfl, ht⟩) (fun q h => nomatch h) dX3_least_34
    · exact absurd h1.2 c8_1
set_option maxHeartbeats 4000000 in
set_option maxRecDepth 100000 in
/-- node -/
theorem o_X3_node (l : Launch) (dC : Nat → ClassId) (dI : Nat → Nat → Nat) (A : Nat → Nat) (cI cQ : ClassId) (σ : HS) {i j : Nat} (hi31 : i < 31) (hj : j < 3) (h1 : ¬ nI i < 0 ∧ nI i < ctS σ) : Met l yX3_node wsX3_node RMo (va_Pc [.ref (A 0), .int (nI i), .int (nI j)] (hfP dC dI A cI cQ σ)) (vp_Si (fun r => r = tcS σ (3 * i + j))) 0 0 (fun _ => False) := by
  refine Met.ofW (cc := cX3_node) (maxL := 3) (ret := (some .int)) (by decide) rfl ?_
  intro p e s m args below meth c s₁ B hml hv
  obtain ⟨rfl, hP, hX⟩ := hv
  have hx := B.exec
  have hb := B.bytes
  have hr := B.returns
  have hts := atoms_spec (ws := wsX3_node) B.pre
  have hown : s.vm.findClass RX3 = some m.cls := findClass_of_methodNamed B.named
  have hlocks := B.notSynchronized
  have hK := hX.1
  have hinX3 : ∀ w ∈ wsX30, w ∈ wsX3_node := fun _ h => List.mem_cons_of_mem _ (List.mem_append_left _ (List.mem_append_left _ (List.mem_append_right _ h)))
  have hl := lv_entry ([.ref (A 0), .int (nI i), .int (nI j)]) (n := 3) (Nat.le_of_ble_eq_true rfl)
  rw [lg_entry_eq]
  generalize (lg_sl ([.ref (A 0), .int (nI i), .int (nI j)]) ++ List.replicate (3 - (lg_sl ([.ref (A 0), .int (nI i), .int (nI j)])).length) Slot.unset).toArray = ls at hl ⊢
  have hl : lv_has ls 3 [(0, .ref (A 0)), (1, .int (nI i)), (2, .int (nI j))] := hl
  refine lv_aload_n hx hb dX3_node_0 rfl (lv_at hl 0 rfl) ?_
  refine lv_iload_n hx hb dX3_node_1 rfl (lv_at hl 1 rfl) ?_
  refine va_csv (W.runV (As := [.int (nI i)]) (rest := []) ⟨hx, hb, hml, hown, hts⟩ (k_X3_needNode l dC dI A cI cQ σ (nI i) h1) (cwV 1 hts gX3_node_X3_needNode rfl rfl rfl (by decide +kernel) ⟨Nat.le_of_ble_eq_true rfl, Nat.le_of_ble_eq_true rfl⟩) ⟨bl_P, va_recv hK hP (ci := 3) (q0 := 0) rfl rfl, fun U hU hW => ⟨rfl, by rw [hU]; exact hP, hX.warm hW⟩⟩ rfl rfl hl.1 rfl (lv_room (Nat.le_of_ble_eq_true rfl)) dX3_node_2 ⟨Nat.zero_le _, Nat.zero_le _⟩) (fun _ => ?_)
  refine lv_iload_n hx hb dX3_node_5 rfl (lv_at hl 2 rfl) ?_
  refine lv_if_lt (tgt := 14) hx hb dX3_node_6 (by decide) (fun c6_0 => ?_) (fun c6_0 => ?_)
  · exact absurd c6_0 (nI_pos (by omega))
  · skip
    refine lv_iload_n hx hb dX3_node_9 rfl (lv_at hl 2 rfl) ?_
    refine lv_iconst (v := 3) hx hb dX3_node_10 (by decide) ?_
    refine lv_icmp_lt (tgt := 24) hx hb dX3_node_11 (by decide) (fun c11_1 => ?_) (fun c11_1 => ?_)
    · skip
      refine lv_aload_n hx hb dX3_node_24 rfl (lv_at hl 0 rfl) ?_
      refine va_get (D := (dC, dI)) (ci := 3) (v := .ref (A 2)) (C := RX3) (T := TX3) (N := 9) hx hb hts hinX3 hown hK hP 0 rfl rfl 1 (by decide) (hts _ (List.mem_of_getElem? (i := 3) rfl)) (fun _ h9 => h9) rfl dX3_node_25 ?_
      refine lv_iload_n hx hb dX3_node_28 rfl (lv_at hl 1 rfl) ?_
      refine lv_iload_n hx hb dX3_node_29 rfl (lv_at hl 2 rfl) ?_
      refine vp_callSi (W.runV (As := [.int (nI i), .int (nI j)]) (rest := []) ⟨hx, hb, hml, hown, hts⟩ (c_X2_cell l dC dI A cI cQ σ (i := i) (j := j) (by omega)) (cwV 2 hts gX3_node_X2_cell rfl rfl rfl (by decide +kernel) ⟨Nat.le_of_ble_eq_true rfl, Nat.le_of_ble_eq_true rfl⟩) ⟨bl_P, va_recv hK hP (ci := 2) (q0 := 2) rfl rfl, fun U hU hW => ⟨rfl, by rw [hU]; exact hP, hX.warm hW⟩⟩ rfl rfl hl.1 rfl (lv_room (Nat.le_of_ble_eq_true rfl)) dX3_node_30 ⟨Nat.zero_le _, Nat.zero_le _⟩) (fun r er => ?_)
      obtain rfl : r = tcS σ (3 * i + j) := er
      exact W.iret hx hb hr (fun t ht hW => ⟨_, rfl, rfl, ht⟩) (fun q h => nomatch h) dX3_node_33
    · exact absurd (nI_lt (b := 3) hj (by decide)) c11_1
set_option maxHeartbeats 4000000 in
set_option maxRecDepth 100000 in
/-- right -/
theorem o_X3_right (l : Launch) (dC : Nat → ClassId) (dI : Nat → Nat → Nat) (A : Nat → Nat) (cI cQ : ClassId) (σ : HS) {c0 : Nat} {ta tp tq : Nat → Option Nat} (hT : tOK (tcS σ) c0 ta tp tq) (hc0 : 0 < c0) (h1 : ¬ ctS σ = 0) : Met l yX3_right wsX3_right RMo (va_Pc [.ref (A 0)] (hfP dC dI A cI cQ σ)) (vp_Si (fun r => r = b2i (fitO (usS σ) (ptS σ) (reS σ) ta tp tq 5 (some 0) (stS σ)))) 0 0 (fun _ => False) := by
  refine Met.ofW (cc := cX3_right) (maxL := 1) (ret := (some .boolean)) (by decide) rfl ?_
  intro p e s m args below meth c s₁ B hml hv
  obtain ⟨rfl, hP, hX⟩ := hv
  have hx := B.exec
  have hb := B.bytes
  have hr := B.returns
  have hts := atoms_spec (ws := wsX3_right) B.pre
  have hown : s.vm.findClass RX3 = some m.cls := findClass_of_methodNamed B.named
  have hlocks := B.notSynchronized
  have hK := hX.1
  have hinX3 : ∀ w ∈ wsX30, w ∈ wsX3_right := fun _ h => List.mem_cons_of_mem _ (List.mem_append_left _ (List.mem_append_left _ (List.mem_append_left _ (List.mem_append_right _ h))))
  have hl := lv_entry ([.ref (A 0)]) (n := 1) (Nat.le_of_ble_eq_true rfl)
  rw [lg_entry_eq]
  generalize (lg_sl ([.ref (A 0)]) ++ List.replicate (1 - (lg_sl ([.ref (A 0)])).length) Slot.unset).toArray = ls at hl ⊢
  have hl : lv_has ls 1 [(0, .ref (A 0))] := hl
  refine lv_aload_n hx hb dX3_right_0 rfl (lv_at hl 0 rfl) ?_
  refine va_csv (W.runV (As := []) (rest := []) ⟨hx, hb, hml, hown, hts⟩ (k_X3_needPlan l dC dI A cI cQ σ  h1) (cwV 0 hts gX3_right_X3_needPlan rfl rfl rfl (by decide +kernel) ⟨Nat.le_of_ble_eq_true rfl, Nat.le_of_ble_eq_true rfl⟩) ⟨bl_P, va_recv hK hP (ci := 3) (q0 := 0) rfl rfl, fun U hU hW => ⟨rfl, by rw [hU]; exact hP, hX.warm hW⟩⟩ rfl rfl hl.1 rfl (lv_room (Nat.le_of_ble_eq_true rfl)) dX3_right_1 ⟨Nat.zero_le _, Nat.zero_le _⟩) (fun _ => ?_)
  refine lv_aload_n hx hb dX3_right_4 rfl (lv_at hl 0 rfl) ?_
  refine lv_iconst (v := 0) hx hb dX3_right_5 (by decide) ?_
  refine lv_aload_n hx hb dX3_right_6 rfl (lv_at hl 0 rfl) ?_
  refine va_get (D := (dC, dI)) (ci := 3) (v := .int (stS σ)) (C := RX3) (T := TX3) (N := 9) hx hb hts hinX3 hown hK hP 0 rfl rfl 5 (by decide) (hts _ (List.mem_of_getElem? (i := 1) rfl)) (fun _ h9 => h9) rfl dX3_right_7 ?_
  refine lv_iconst (v := 4) hx hb dX3_right_10 (by decide) ?_
  refine vp_callSi (W.runV (As := [.int (o2i (some 0)), .int (stS σ), .int (dpt 5)]) (rest := []) ⟨hx, hb, hml, hown, hts⟩ (c_X3_fits l dC dI A cI cQ σ hT 5 (by decide) (some 0) (fun k hk => by cases hk; exact hc0) (stS σ)) (cwV 3 hts gX3_right_X3_fits rfl rfl rfl (by decide +kernel) ⟨Nat.le_of_ble_eq_true rfl, Nat.le_of_ble_eq_true rfl⟩) ⟨bl_P, va_recv hK hP (ci := 3) (q0 := 0) rfl rfl, fun U hU hW => ⟨rfl, by rw [hU]; exact hP, hX.warm hW⟩⟩ rfl rfl hl.1 rfl (lv_room (Nat.le_of_ble_eq_true rfl)) dX3_right_11 ⟨Nat.zero_le _, Nat.zero_le _⟩) (fun r er => ?_)
  obtain rfl : r = b2i (fitO (usS σ) (ptS σ) (reS σ) ta tp tq 5 (some 0) (stS σ)) := er
  exact W.zret hx hb hr (b2i_nar _) (fun t ht hW => ⟨_, rfl, rfl, ht⟩) (fun q h => nomatch h) dX3_right_14
set_option maxHeartbeats 4000000 in
set_option maxRecDepth 100000 in
/-- trace -/
theorem o_X3_trace (l : Launch) (dC : Nat → ClassId) (dI : Nat → Nat → Nat) (A : Nat → Nat) (cI cQ : ClassId) (σ : HS) {k : Nat} (hk : k < 4) (h1 : nI k < maS σ) : Met l yX3_trace wsX3_trace RMo (va_Pc [.ref (A 0), .int (nI k)] (hfP dC dI A cI cQ σ)) (vp_Si (fun r => r = trS σ k)) 0 0 (fun _ => False) := by
  refine Met.ofW (cc := cX3_trace) (maxL := 2) (ret := (some .int)) (by decide) rfl ?_
  intro p e s m args below meth c s₁ B hml hv
  obtain ⟨rfl, hP, hX⟩ := hv
  have hx := B.exec
  have hb := B.bytes
  have hr := B.returns
  have hts := atoms_spec (ws := wsX3_trace) B.pre
  have hown : s.vm.findClass RX3 = some m.cls := findClass_of_methodNamed B.named
  have hlocks := B.notSynchronized
  have hK := hX.1
  have hinX3 : ∀ w ∈ wsX30, w ∈ wsX3_trace := fun _ h => List.mem_cons_of_mem _ (List.mem_append_left _ (List.mem_append_right _ h))
  have hl := lv_entry ([.ref (A 0), .int (nI k)]) (n := 2) (Nat.le_of_ble_eq_true rfl)
  rw [lg_entry_eq]
  generalize (lg_sl ([.ref (A 0), .int (nI k)]) ++ List.replicate (2 - (lg_sl ([.ref (A 0), .int (nI k)])).length) Slot.unset).toArray = ls at hl ⊢
  have hl : lv_has ls 2 [(0, .ref (A 0)), (1, .int (nI k))] := hl
  refine lv_iload_n hx hb dX3_trace_0 rfl (lv_at hl 1 rfl) ?_
  refine lv_if_lt (tgt := 12) hx hb dX3_trace_1 (by decide) (fun c1_0 => ?_) (fun c1_0 => ?_)
  · exact absurd c1_0 (nI_pos (by omega))
  · skip
    refine lv_iload_n hx hb dX3_trace_4 rfl (lv_at hl 1 rfl) ?_
    refine lv_aload_n hx hb dX3_trace_5 rfl (lv_at hl 0 rfl) ?_
    refine va_get (D := (dC, dI)) (ci := 3) (v := .int (maS σ)) (C := RX3) (T := TX3) (N := 9) hx hb hts hinX3 hown hK hP 0 rfl rfl 8 (by decide) (hts _ (List.mem_of_getElem? (i := 3) rfl)) (fun _ h9 => h9) rfl dX3_trace_6 ?_
    refine lv_icmp_lt (tgt := 22) hx hb dX3_trace_9 (by decide) (fun c9_1 => ?_) (fun c9_1 => ?_)
    · skip
      refine lv_aload_n hx hb dX3_trace_22 rfl (lv_at hl 0 rfl) ?_
      refine va_get (D := (dC, dI)) (ci := 3) (v := .ref (A 7)) (C := RX3) (T := TX3) (N := 9) hx hb hts hinX3 hown hK hP 0 rfl rfl 3 (by decide) (hts _ (List.mem_of_getElem? (i := 4) rfl)) (fun _ h9 => h9) rfl dX3_trace_23 ?_
      refine lv_iload_n hx hb dX3_trace_26 rfl (lv_at hl 1 rfl) ?_
      refine va_iald hx hb hK hP 7 0 rfl rfl (vp_in_nI (show k < 4 by omega) (by decide)) dX3_trace_27 ?_
      rw [nI_clamp (show k < 2 ^ 31 by have := (show k < 4 by omega); omega)]
      exact W.iret hx hb hr (fun t ht hW => ⟨_, rfl, rfl, ht⟩) (fun q h => nomatch h) dX3_trace_28
    · exact absurd h1 c9_1
set_option maxHeartbeats 4000000 in
set_option maxRecDepth 100000 in
/-- clear -/
theorem o_X3_clear (l : Launch) (dC : Nat → ClassId) (dI : Nat → Nat → Nat) (A : Nat → Nat) (cI cQ : ClassId) (σ : HS) (sz : Nat)   : Met l yX3_clear wsX3_clear RMo (va_Pc [.ref (A 0)] (hfF dC dI A cI cQ sz σ)) (va_Qi (fun (r : Int32) (τ : HS) => r = nI (cntA (acS σ) 8) ∧ τ = ((0, 65535, 65535, -1, 0), (0, tcS σ), σ.2.2.1, trS σ, clrN (acS σ) 8, nxS σ)) (hfB dC dI A cI cQ (va_A (hfW A cI cQ σ) sz)) (va_A (hfW A cI cQ σ) sz)) 0 0 (va_A (hfW A cI cQ σ) sz) := by
  obtain ⟨⟨cl, st, go, hi, ma⟩, ⟨ct, tc⟩, ⟨be, co, ap⟩, tr, ac, nx⟩ := σ
  refine Met.ofW (cc := cX3_clear) (maxL := 3) (ret := (some .int)) (by decide) rfl ?_
  intro p e s m args below meth c s₁ B hml hv
  obtain ⟨rfl, hsz, hP, hX, hD0⟩ := hv
  have hx := B.exec
  have hb := B.bytes
  have hr := B.returns
  have hts := atoms_spec (ws := wsX3_clear) B.pre
  have hown : s.vm.findClass RX3 = some m.cls := findClass_of_methodNamed B.named
  have hlocks := B.notSynchronized
  have hK := hX.1
  have hinX3 : ∀ w ∈ wsX30, w ∈ wsX3_clear := fun _ h => List.mem_cons_of_mem _ (List.mem_append_left _ (List.mem_append_left _ (List.mem_append_right _ h)))
  have hinX0 : ∀ w ∈ wsX00, w ∈ wsX3_clear := fun _ h => List.mem_cons_of_mem _ (List.mem_append_left _ (List.mem_append_right _ h))
  subst hsz
  have hD := hD0.self (sz := s.heap.size)
  generalize hAe : va_A (hfW A cI cQ _) s.heap.size = V at hD ⊢
  have hA : ∀ q : Nat, s.heap.size ≤ q → V q := fun q h => by rw [← hAe]; exact Or.inr h
  have hS : va_S V s.heap s.heap [] := va_S.rf
  have hl := lv_entry ([.ref (A 0)]) (n := 3) (Nat.le_of_ble_eq_true rfl)
  rw [lg_entry_eq]
  generalize (lg_sl ([.ref (A 0)]) ++ List.replicate (3 - (lg_sl ([.ref (A 0)])).length) Slot.unset).toArray = ls at hl ⊢
  have hl : lv_has ls 3 [(0, .ref (A 0))] := hl
  have hP : va_P (dC, dI) vwCl (hfL A cI cQ cl st go hi ma ct tc be co ap tr ac nx) s.heap := hP
  have hD : va_D V (hfL A cI cQ cl st go hi ma ct tc be co ap tr ac nx) := hD
  refine lv_iconst (v := 0) hx hb dX3_clear_0 (by decide) ?_
  refine lv_istore_n (lv' := [(1, .int 0), (0, .ref (A 0))]) hx hb dX3_clear_1 rfl hl (by decide) rfl (fun ls hl => ?_)
  refine lv_iconst (v := 0) hx hb dX3_clear_2 (by decide) ?_
  refine lv_istore_n (lv' := [(2, .int 0), (1, .int 0), (0, .ref (A 0))]) hx hb dX3_clear_3 rfl hl (by decide) rfl (fun ls hl => ?_)
  refine w_loopP (pc := 4) 8 (fun a ls => lv_has ls 3 [(0, .ref (A 0)), (1, .int (nI (cntA ac a))), (2, .int (nI a))]) ?_ 0 (Nat.zero_le _) ls (lv_sub hl [2, 1, 0] rfl)
  intro a ls hk hl ih
  refine lv_iload_n hx hb dX3_clear_4 rfl (lv_at hl 2 rfl) ?_
  refine lv_bipush (v := 8) hx hb dX3_clear_5 (by decide) ?_
  refine lv_icmp_ge (tgt := 31) hx hb dX3_clear_7 (by decide) (fun c7_0 => ?_) (fun c7_0 => ?_)
  · skip
    obtain rfl := ctr_ge (N := 8) rfl (by decide) hk c7_0
    refine lv_aload_n hx hb dX3_clear_31 rfl (lv_at hl 0 rfl) ?_
    have hFc := hf_free (σ := ((cl, st, go, hi, ma), (ct, tc), (be, co, ap), tr, ac, nx)) hD hS hA
    refine va_callv (va_runV (As := []) (rest := []) ⟨hx, hb, hml, hown, hts⟩ (c_X3_forgetAll l dC dI A cI cQ ((cl, st, go, hi, ma), (ct, tc), (be, co, ap), tr, ac, nx) s.heap.size) (cwV 0 hts gX3_clear_X3_forgetAll rfl rfl rfl (by decide +kernel) ⟨Nat.le_of_ble_eq_true rfl, Nat.le_of_ble_eq_true rfl⟩) ⟨bl_F, va_recv hK hP (ci := 3) (q0 := 0) rfl rfl, fun U hU hW => ⟨rfl, by rw [hU], by rw [hU]; exact hP, hX.warm hW, hf_any hD⟩⟩ rfl rfl hl.1 rfl (lv_room (Nat.le_of_ble_eq_true rfl)) dX3_clear_32 ⟨Nat.zero_le _, Nat.zero_le _⟩) hS (fun q _ h => hFc q h) hFc (fun u t H locs ht hvm hw hB hz1 hk1 hS => ?_)
    obtain ⟨hP1, hD1⟩ := hB
    rw [ht] at hP1
    subst hw
    have hP : va_P (dC, dI) vwCl (hfL A cI cQ 0 65535 65535 (-1) 0 0 tc be co ap tr (clrN ac 8) nx) H := hP1
    have hD : va_D V (hfL A cI cQ 0 65535 65535 (-1) 0 0 tc be co ap tr (clrN ac 8) nx) := hf_weak hD1 hFc
    clear hP1 hD1 hFc
    refine lv_iload_n hx hb dX3_clear_35 rfl (lv_at hl 1 rfl) ?_
    exact W.iret hx hb hr (fun t ht hW => ⟨⟨_, ((0, 65535, 65535, -1, 0), (0, tc), (be, co, ap), tr, clrN ac 8, nx), rfl, ⟨rfl, rfl⟩, by rw [ht]; exact hP, hD⟩, hS.F ht⟩) hS.2.2 dX3_clear_36
  · skip
    have ha := ctr_lt (N := 8) rfl (by decide) hk c7_0
    refine lv_aload_n hx hb dX3_clear_10 rfl (lv_at hl 0 rfl) ?_
    refine va_get (D := (dC, dI)) (ci := 3) (v := .ref (A 1)) (C := RX3) (T := TX3) (N := 9) hx hb hts hinX3 hown hK hP 0 rfl rfl 0 (by decide) (hts _ (List.mem_of_getElem? (i := 1) rfl)) (fun _ h9 => h9) rfl dX3_clear_11 ?_
    refine lv_iload_n hx hb dX3_clear_14 rfl (lv_at hl 2 rfl) ?_
    refine va_aldq hx hb hK hP 1 1 rfl rfl (vp_in_nI (show a < 8 by omega) (by decide)) dX3_clear_15 ?_
    rw [nI_clamp (show a < 2 ^ 31 by have := (show a < 8 by omega); omega)]
    refine va_getN (D := (dC, dI)) (host := RX3) (ci := 0) (v := .int (ac a 0)) (C := RX0) (T := TX0) (N := 5) hx hb hts hinX0 hown hK hP (8 + a) (hf_act ha) rfl 0 (by decide) (va_Nw.use rfl (hX.2.1 _ (List.mem_of_getElem? (i := 4) rfl))) (fun _ h9 => h9) rfl dX3_clear_16 ?_
    refine lv_if_eq (tgt := 25) hx hb dX3_clear_19 (by decide) (fun c19_1 => ?_) (fun c19_1 => ?_)
    · skip
      obtain ⟨y2, ey2⟩ : ∃ y : Int32, y = (nI a) + 1 := ⟨_, rfl⟩
      refine lv_iinc (v := y2) (lv' := [(2, .int y2), (0, .ref (A 0)), (1, .int (nI (cntA ac a)))]) hx hb dX3_clear_25 hl (k := 2) rfl (by rw [ey2]; rfl) (by decide) rfl (fun ls hl => ?_)
      obtain rfl : y2 = nI (a + 1) := ey2.trans (nI_1 a)
      refine lv_goto (tgt := 4) hx hb dX3_clear_28 (by decide) ?_
      exact ih ls (by rw [cntA, if_pos c19_1]; exact lv_sub hl [1, 2, 0] rfl) ha
    · skip
      obtain ⟨y3, ey3⟩ : ∃ y : Int32, y = (nI (cntA ac a)) + 1 := ⟨_, rfl⟩
      refine lv_iinc (v := y3) (lv' := [(1, .int y3), (0, .ref (A 0)), (2, .int (nI a))]) hx hb dX3_clear_22 hl (k := 1) rfl (by rw [ey3]; rfl) (by decide) rfl (fun ls hl => ?_)
      obtain rfl : y3 = nI ((cntA ac a) + 1) := ey3.trans (nI_1 (cntA ac a))
      obtain ⟨y4, ey4⟩ : ∃ y : Int32, y = (nI a) + 1 := ⟨_, rfl⟩
      refine lv_iinc (v := y4) (lv' := [(2, .int y4), (1, .int (nI ((cntA ac a) + 1))), (0, .ref (A 0))]) hx hb dX3_clear_25 hl (k := 2) rfl (by rw [ey4]; rfl) (by decide) rfl (fun ls hl => ?_)
      obtain rfl : y4 = nI (a + 1) := ey4.trans (nI_1 a)
      refine lv_goto (tgt := 4) hx hb dX3_clear_28 (by decide) ?_
      exact ih ls (by rw [cntA, if_neg c19_1]; exact lv_sub hl [2, 1, 0] rfl) ha
set_option maxHeartbeats 4000000 in
set_option maxRecDepth 100000 in
/-- action -/
theorem o_X3_action (l : Launch) (dC : Nat → ClassId) (dI : Nat → Nat → Nat) (A : Nat → Nat) (cI cQ : ClassId) (σ : HS) (sz : Nat) {a : Nat} (ha : a < 8) (mm vv : Int32) (o : Option Nat) (ho : ∀ j, o = some j → j < 4) (bb : Bool) (h2 : okBits mm vv) (hb0 : acS σ a 0 = b2i bb) : Met l yX3_action wsX3_action RMo (va_Pc [.ref (A 0), .int (nI a), .int mm, .int vv, .int (o2i o)] (hfFX dC dI A cI cQ sz σ)) (va_Qi (fun (r : Int32) (τ : HS) => r = b2i bb ∧ τ = (σ.1, σ.2.1, σ.2.2.1, trS σ, up2 (up2 (up2 (up2 (acS σ) a 0 1) a 1 (mk (demF mm vv))) a 2 (tiI o)) a 3 0, va_up (nxS σ) a (fillN (nxS σ a) (fun j => nI j) 16))) (hfB dC dI A cI cQ (va_A (hfW A cI cQ σ) sz)) (va_A (hfW A cI cQ σ) sz)) 0 0 (va_A (hfW A cI cQ σ) sz) := by
  obtain ⟨⟨cl, st, go, hi, ma⟩, ⟨ct, tc⟩, ⟨be, co, ap⟩, tr, ac, nx⟩ := σ
  refine Met.ofW (cc := cX3_action) (maxL := 6) (ret := (some .boolean)) (by decide) rfl ?_
  intro p e s m args below meth c s₁ B hml hv
  obtain ⟨rfl, ⟨hsz, hP, hX, hD0⟩, hH⟩ := hv
  have hx := B.exec
  have hb := B.bytes
  have hr := B.returns
  have hts := atoms_spec (ws := wsX3_action) B.pre
  have hown : s.vm.findClass RX3 = some m.cls := findClass_of_methodNamed B.named
  have hlocks := B.notSynchronized
  have hK := hX.1
  have hinX3 : ∀ w ∈ wsX30, w ∈ wsX3_action := fun _ h => List.mem_cons_of_mem _ (List.mem_append_left _ (List.mem_append_left _ (List.mem_append_left _ (List.mem_append_right _ h))))
  have hinX0 : ∀ w ∈ wsX00, w ∈ wsX3_action := fun _ h => List.mem_cons_of_mem _ (List.mem_append_left _ (List.mem_append_left _ (List.mem_append_right _ h)))
  subst hsz
  have hD := hD0.self (sz := s.heap.size)
  generalize hAe : va_A (hfW A cI cQ _) s.heap.size = V at hD hH ⊢
  have hA : ∀ q : Nat, s.heap.size ≤ q → V q := fun q h => by rw [← hAe]; exact Or.inr h
  have hS : va_S V s.heap s.heap [] := va_S.rf
  have hl := lv_entry ([.ref (A 0), .int (nI a), .int mm, .int vv, .int (o2i o)]) (n := 6) (Nat.le_of_ble_eq_true rfl)
  rw [lg_entry_eq]
  generalize (lg_sl ([.ref (A 0), .int (nI a), .int mm, .int vv, .int (o2i o)]) ++ List.replicate (6 - (lg_sl ([.ref (A 0), .int (nI a), .int mm, .int vv, .int (o2i o)])).length) Slot.unset).toArray = ls at hl ⊢
  have hl : lv_has ls 6 [(0, .ref (A 0)), (1, .int (nI a)), (2, .int mm), (3, .int vv), (4, .int (o2i o))] := hl
  have hP : va_P (dC, dI) vwCl (hfL A cI cQ cl st go hi ma ct tc be co ap tr ac nx) s.heap := hP
  have hD : va_D V (hfL A cI cQ cl st go hi ma ct tc be co ap tr ac nx) := hD
  obtain ⟨-, -, ti, hZ, hTi⟩ := hH
  refine lv_iload_n hx hb dX3_action_0 rfl (lv_at hl 1 rfl) ?_
  refine va_csv (W.runS (As := [.int (nI a)]) (rest := []) ⟨hx, hb, hml, hown, hts⟩ (k_X3_needNumber l (nI a) ⟨nI_pos (by omega), nI_lt (b := 8) ha (by decide)⟩) (va_cwS 1 hts gX3_action_X3_needNumber rfl rfl rfl (by decide +kernel) ⟨Nat.le_of_ble_eq_true rfl, Nat.le_of_ble_eq_true rfl⟩) ⟨bl_T, fun U hU hW => ⟨rfl, trivial⟩⟩ rfl rfl hl.1 rfl (lv_room (Nat.le_of_ble_eq_true rfl)) dX3_action_1 ⟨Nat.zero_le _, Nat.zero_le _⟩) (fun _ => ?_)
  refine lv_iload_n hx hb dX3_action_4 rfl (lv_at hl 2 rfl) ?_
  refine lv_iload_n hx hb dX3_action_5 rfl (lv_at hl 3 rfl) ?_
  refine va_csv (W.runS (As := [.int mm, .int vv]) (rest := []) ⟨hx, hb, hml, hown, hts⟩ (k_X3_needBits l mm vv h2) (va_cwS 2 hts gX3_action_X3_needBits rfl rfl rfl (by decide +kernel) ⟨Nat.le_of_ble_eq_true rfl, Nat.le_of_ble_eq_true rfl⟩) ⟨bl_T, fun U hU hW => ⟨rfl, trivial⟩⟩ rfl rfl hl.1 rfl (lv_room (Nat.le_of_ble_eq_true rfl)) dX3_action_6 ⟨Nat.zero_le _, Nat.zero_le _⟩) (fun _ => ?_)
  refine lv_iload hx hb dX3_action_9 (lv_at hl 4 rfl) ?_
  refine lv_iconst (v := (-1)) hx hb dX3_action_11 (by decide) ?_
  refine lv_icmp_lt (tgt := 21) hx hb dX3_action_12 (by decide) (fun c12_0 => ?_) (fun c12_0 => ?_)
  · exact absurd c12_0 (by cases o with | none => decide | some j => have := ho j rfl; rw [Int32.not_lt]; exact Int32.le_trans (by decide) (nI_pos' (n := j) (by omega)))
  · skip
    refine lv_iload hx hb dX3_action_15 (lv_at hl 4 rfl) ?_
    refine lv_iconst (v := 4) hx hb dX3_action_17 (by decide) ?_
    refine lv_icmp_lt (tgt := 31) hx hb dX3_action_18 (by decide) (fun c18_1 => ?_) (fun c18_1 => ?_)
    · skip
      refine lv_aload_n hx hb dX3_action_31 rfl (lv_at hl 0 rfl) ?_
      refine va_get (D := (dC, dI)) (ci := 3) (v := .ref (A 1)) (C := RX3) (T := TX3) (N := 9) hx hb hts hinX3 hown hK hP 0 rfl rfl 0 (by decide) (hts _ (List.mem_of_getElem? (i := 3) rfl)) (fun _ h9 => h9) rfl dX3_action_32 ?_
      refine lv_iload_n hx hb dX3_action_35 rfl (lv_at hl 1 rfl) ?_
      refine va_aldq hx hb hK hP 1 1 rfl rfl (vp_in_nI (show a < 8 by omega) (by decide)) dX3_action_36 ?_
      rw [nI_clamp (show a < 2 ^ 31 by have := (show a < 8 by omega); omega)]
      refine va_getN (D := (dC, dI)) (host := RX3) (ci := 0) (v := .int (ac a 0)) (C := RX0) (T := TX0) (N := 5) hx hb hts hinX0 hown hK hP (8 + a) (hf_act ha) rfl 0 (by decide) (va_Nw.use rfl (hX.2.1 _ (List.mem_of_getElem? (i := 4) rfl))) (fun _ h9 => h9) rfl dX3_action_37 ?_
      refine lv_istore (lv' := [(5, .int (ac a 0)), (0, .ref (A 0)), (1, .int (nI a)), (2, .int mm), (3, .int vv), (4, .int (o2i o))]) hx hb dX3_action_40 hl (by decide) rfl (fun ls hl => ?_)
      refine lv_aload_n hx hb dX3_action_42 rfl (lv_at hl 1 rfl) ?_
      refine va_get (D := (dC, dI)) (ci := 3) (v := .ref (A 1)) (C := RX3) (T := TX3) (N := 9) hx hb hts hinX3 hown hK hP 0 rfl rfl 0 (by decide) (hts _ (List.mem_of_getElem? (i := 3) rfl)) (fun _ h9 => h9) rfl dX3_action_43 ?_
      refine lv_iload_n hx hb dX3_action_46 rfl (lv_at hl 2 rfl) ?_
      refine va_aldq hx hb hK hP 1 1 rfl rfl (vp_in_nI (show a < 8 by omega) (by decide)) dX3_action_47 ?_
      rw [nI_clamp (show a < 2 ^ 31 by have := (show a < 8 by omega); omega)]
      refine lv_iload_n hx hb dX3_action_48 rfl (lv_at hl 3 rfl) ?_
      refine lv_iload_n hx hb dX3_action_49 rfl (lv_at hl 4 rfl) ?_
      refine vp_callSi (W.runS (As := [.int mm, .int vv]) (rest := [.ref (A (8 + a))]) ⟨hx, hb, hml, hown, hts⟩ (c_X3_demanded l mm vv) (va_cwS 2 hts gX3_action_X3_demanded rfl rfl rfl (by decide +kernel) ⟨Nat.le_of_ble_eq_true rfl, Nat.le_of_ble_eq_true rfl⟩) ⟨bl_T, fun U hU hW => ⟨rfl, trivial⟩⟩ rfl rfl hl.1 rfl (lv_room (Nat.le_of_ble_eq_true rfl)) dX3_action_50 ⟨Nat.zero_le _, Nat.zero_le _⟩) (fun r er => ?_)
      obtain rfl : r = mk (demF mm vv) := er
      refine lv_iload hx hb dX3_action_53 (lv_at hl 5 rfl) ?_
      refine lv_iconst (v := (-1)) hx hb dX3_action_55 (by decide) ?_
      refine lv_icmp_ne (tgt := 63) hx hb dX3_action_56 (by decide) (fun c56_2 => ?_) (fun c56_2 => ?_)
      · skip
        obtain ⟨j, rfl, hj⟩ := o2i_nn (N := 4) (by decide) ho c56_2
        have hl : lv_has ls 6 [(5, .int (ac a 0)), (0, .ref (A 0)), (1, .int (nI a)), (2, .int mm), (3, .int vv), (4, .int (nI j))] := hl
        refine va_gets hx hb hZ hS hown (hts _ (List.mem_of_getElem? (i := 4) rfl)) (fun _ h9 => h9) dX3_action_63 ?_
        refine lv_iload hx hb dX3_action_66 (lv_at hl 5 rfl) ?_
        refine va_ti hx hb hTi hS (vp_in_nI (show j < 4 by omega) (by decide)) (v := .int (tiI (some j))) (by rw [nI_clamp (show j < 2 ^ 31 by omega)]; exact tiI_at) dX3_action_68 ?_
        have hFc := hf_free (σ := ((cl, st, go, hi, ma), (ct, tc), (be, co, ap), tr, ac, nx)) hD hS hA
        refine va_callv (va_runV (As := [.int (mk (demF mm vv)), .int (tiI (some j))]) (rest := []) ⟨hx, hb, hml, hown, hts⟩ (c_X0_begin l dC dI A cI cQ ((cl, st, go, hi, ma), (ct, tc), (be, co, ap), tr, ac, nx) s.heap.size ha (mk (demF mm vv)) (tiI (some j))) (cwV 2 hts gX3_action_X0_begin rfl rfl rfl (by decide +kernel) ⟨Nat.le_of_ble_eq_true rfl, Nat.le_of_ble_eq_true rfl⟩) ⟨bl_F, va_recv hK hP (ci := 0) (q0 := (8 + a)) rfl (hf_act ha), fun U hU hW => ⟨rfl, by rw [hU], by rw [hU]; exact hP, hX.warm hW, hf_any hD⟩⟩ rfl rfl hl.1 rfl (lv_room (Nat.le_of_ble_eq_true rfl)) dX3_action_69 ⟨Nat.zero_le _, Nat.zero_le _⟩) hS (fun q _ h => hFc q h) hFc (fun u t H locs ht hvm hw hB hz1 hk1 hS => ?_)
        obtain ⟨hP1, hD1⟩ := hB
        rw [ht] at hP1
        subst hw
        have hP : va_P (dC, dI) vwCl (hfL A cI cQ cl st go hi ma ct tc be co ap tr (up2 (up2 (up2 (up2 ac a 0 1) a 1 (mk (demF mm vv))) a 2 (tiI (some j))) a 3 0) (va_up nx a (fillN (nx a) (fun j => nI j) 16))) H := hP1
        have hD : va_D V (hfL A cI cQ cl st go hi ma ct tc be co ap tr (up2 (up2 (up2 (up2 ac a 0 1) a 1 (mk (demF mm vv))) a 2 (tiI (some j))) a 3 0) (va_up nx a (fillN (nx a) (fun j => nI j) 16))) := hf_weak hD1 hFc
        clear hP1 hD1 hFc
        refine lv_iload hx hb dX3_action_72 (lv_at hl 0 rfl) ?_
        exact W.zret hx hb hr (by rw [show ac a 0 = b2i bb from hb0]; exact b2i_nar bb) (fun t ht hW => ⟨⟨_, ((cl, st, go, hi, ma), (ct, tc), (be, co, ap), tr, up2 (up2 (up2 (up2 ac a 0 1) a 1 (mk (demF mm vv))) a 2 (tiI (some j))) a 3 0, va_up nx a (fillN (nx a) (fun j => nI j) 16)), rfl, ⟨hb0, rfl⟩, by rw [ht]; exact hP, hD⟩, hS.F ht⟩) hS.2.2 dX3_action_74
      · skip
        have ho0 := (o2i_none (fun a h => by have := ho a h; omega)).mp c56_2
        subst ho0
        refine lv_iconst (v := 0) hx hb dX3_action_59 (by decide) ?_
        refine lv_goto (tgt := 69) hx hb dX3_action_60 (by decide) ?_
        have hFc := hf_free (σ := ((cl, st, go, hi, ma), (ct, tc), (be, co, ap), tr, ac, nx)) hD hS hA
        refine va_callv (va_runV (As := [.int (mk (demF mm vv)), .int 0]) (rest := []) ⟨hx, hb, hml, hown, hts⟩ (c_X0_begin l dC dI A cI cQ ((cl, st, go, hi, ma), (ct, tc), (be, co, ap), tr, ac, nx) s.heap.size ha (mk (demF mm vv)) (0)) (cwV 2 hts gX3_action_X0_begin rfl rfl rfl (by decide +kernel) ⟨Nat.le_of_ble_eq_true rfl, Nat.le_of_ble_eq_true rfl⟩) ⟨bl_F, va_recv hK hP (ci := 0) (q0 := (8 + a)) rfl (hf_act ha), fun U hU hW => ⟨rfl, by rw [hU], by rw [hU]; exact hP, hX.warm hW, hf_any hD⟩⟩ rfl rfl hl.1 rfl (lv_room (Nat.le_of_ble_eq_true rfl)) dX3_action_69 ⟨Nat.zero_le _, Nat.zero_le _⟩) hS (fun q _ h => hFc q h) hFc (fun u t H locs ht hvm hw hB hz1 hk1 hS => ?_)
        obtain ⟨hP1, hD1⟩ := hB
        rw [ht] at hP1
        subst hw
        have hP : va_P (dC, dI) vwCl (hfL A cI cQ cl st go hi ma ct tc be co ap tr (up2 (up2 (up2 (up2 ac a 0 1) a 1 (mk (demF mm vv))) a 2 (0)) a 3 0) (va_up nx a (fillN (nx a) (fun j => nI j) 16))) H := hP1
        have hD : va_D V (hfL A cI cQ cl st go hi ma ct tc be co ap tr (up2 (up2 (up2 (up2 ac a 0 1) a 1 (mk (demF mm vv))) a 2 (0)) a 3 0) (va_up nx a (fillN (nx a) (fun j => nI j) 16))) := hf_weak hD1 hFc
        clear hP1 hD1 hFc
        refine lv_iload hx hb dX3_action_72 (lv_at hl 0 rfl) ?_
        exact W.zret hx hb hr (by rw [show ac a 0 = b2i bb from hb0]; exact b2i_nar bb) (fun t ht hW => ⟨⟨_, ((cl, st, go, hi, ma), (ct, tc), (be, co, ap), tr, up2 (up2 (up2 (up2 ac a 0 1) a 1 (mk (demF mm vv))) a 2 (0)) a 3 0, va_up nx a (fillN (nx a) (fun j => nI j) 16)), rfl, ⟨hb0, rfl⟩, by rw [ht]; exact hP, hD⟩, hS.F ht⟩) hS.2.2 dX3_action_74
    · exact absurd (by cases o with | none => decide | some j => exact nI_lt (b := 4) (ho j rfl) (by decide)) c18_1
set_option maxHeartbeats 4000000 in
set_option maxRecDepth 100000 in
/-- effect -/
theorem o_X3_effect (l : Launch) (dC : Nat → ClassId) (dI : Nat → Nat → Nat) (A : Nat → Nat) (cI cQ : ClassId) (σ : HS) (sz : Nat) {a : Nat} (ha : a < 8) {f : Nat} (hf : f < 4) (mk1 : Bool) (mm vv : Int32) (h1 : ¬ acS σ a 0 = 0) (h2 : okBits mm vv) (h3 : acS σ a 3 < 4) : Met l yX3_effect wsX3_effect RMo (va_Pc [.ref (A 0), .int (nI a), .int (nI f), .int (b2i mk1), .int mm, .int vv] (hfF dC dI A cI cQ sz σ)) (va_Qi (fun (r : Int32) (τ : HS) => r = acS σ a 3 + 1 ∧ τ = (σ.1, σ.2.1, σ.2.2.1, trS σ, up2 (acS σ) a 3 (acS σ a 3 + 1), va_up (nxS σ) a (fillN (nxS σ a) (addG (nxS σ a) (1 <<< (nI f &&& 31)) mk1 (mk (demF mm vv))) 16))) (hfB dC dI A cI cQ (va_A (hfW A cI cQ σ) sz)) (va_A (hfW A cI cQ σ) sz)) 0 0 (va_A (hfW A cI cQ σ) sz) := by
  obtain ⟨⟨cl, st, go, hi, ma⟩, ⟨ct, tc⟩, ⟨be, co, ap⟩, tr, ac, nx⟩ := σ
  refine Met.ofW (cc := cX3_effect) (maxL := 6) (ret := (some .int)) (by decide) rfl ?_
  intro p e s m args below meth c s₁ B hml hv
  obtain ⟨rfl, hsz, hP, hX, hD0⟩ := hv
  have hx := B.exec
  have hb := B.bytes
  have hr := B.returns
  have hts := atoms_spec (ws := wsX3_effect) B.pre
  have hown : s.vm.findClass RX3 = some m.cls := findClass_of_methodNamed B.named
  have hlocks := B.notSynchronized
  have hK := hX.1
  have hinX3 : ∀ w ∈ wsX30, w ∈ wsX3_effect := fun _ h => List.mem_cons_of_mem _ (List.mem_append_left _ (List.mem_append_left _ (List.mem_append_left _ (List.mem_append_left _ (List.mem_append_left _ (List.mem_append_right _ h))))))
  have hinX0 : ∀ w ∈ wsX00, w ∈ wsX3_effect := fun _ h => List.mem_cons_of_mem _ (List.mem_append_left _ (List.mem_append_left _ (List.mem_append_left _ (List.mem_append_left _ (List.mem_append_right _ h)))))
  subst hsz
  have hD := hD0.self (sz := s.heap.size)
  generalize hAe : va_A (hfW A cI cQ _) s.heap.size = V at hD ⊢
  have hA : ∀ q : Nat, s.heap.size ≤ q → V q := fun q h => by rw [← hAe]; exact Or.inr h
  have hS : va_S V s.heap s.heap [] := va_S.rf
  have hl := lv_entry ([.ref (A 0), .int (nI a), .int (nI f), .int (b2i mk1), .int mm, .int vv]) (n := 6) (Nat.le_of_ble_eq_true rfl)
  rw [lg_entry_eq]
  generalize (lg_sl ([.ref (A 0), .int (nI a), .int (nI f), .int (b2i mk1), .int mm, .int vv]) ++ List.replicate (6 - (lg_sl ([.ref (A 0), .int (nI a), .int (nI f), .int (b2i mk1), .int mm, .int vv])).length) Slot.unset).toArray = ls at hl ⊢
  have hl : lv_has ls 6 [(0, .ref (A 0)), (1, .int (nI a)), (2, .int (nI f)), (3, .int (b2i mk1)), (4, .int mm), (5, .int vv)] := hl
  have hP : va_P (dC, dI) vwCl (hfL A cI cQ cl st go hi ma ct tc be co ap tr ac nx) s.heap := hP
  have hD : va_D V (hfL A cI cQ cl st go hi ma ct tc be co ap tr ac nx) := hD
  have h1 : ¬ ac a 0 = 0 := h1
  have h3 : ac a 3 < 4 := h3
  refine lv_iload_n hx hb dX3_effect_0 rfl (lv_at hl 1 rfl) ?_
  refine va_csv (W.runS (As := [.int (nI a)]) (rest := []) ⟨hx, hb, hml, hown, hts⟩ (k_X3_needNumber l (nI a) ⟨nI_pos (by omega), nI_lt (b := 8) ha (by decide)⟩) (va_cwS 1 hts gX3_effect_X3_needNumber rfl rfl rfl (by decide +kernel) ⟨Nat.le_of_ble_eq_true rfl, Nat.le_of_ble_eq_true rfl⟩) ⟨bl_T, fun U hU hW => ⟨rfl, trivial⟩⟩ rfl rfl hl.1 rfl (lv_room (Nat.le_of_ble_eq_true rfl)) dX3_effect_1 ⟨Nat.zero_le _, Nat.zero_le _⟩) (fun _ => ?_)
  refine lv_aload_n hx hb dX3_effect_4 rfl (lv_at hl 0 rfl) ?_
  refine lv_iload_n hx hb dX3_effect_5 rfl (lv_at hl 1 rfl) ?_
  refine va_csv (W.runV (As := [.int (nI a)]) (rest := []) ⟨hx, hb, hml, hown, hts⟩ (k_X3_needThere l dC dI A cI cQ ((cl, st, go, hi, ma), (ct, tc), (be, co, ap), tr, ac, nx) (a := a) ha h1) (cwV 1 hts gX3_effect_X3_needThere rfl rfl rfl (by decide +kernel) ⟨Nat.le_of_ble_eq_true rfl, Nat.le_of_ble_eq_true rfl⟩) ⟨bl_P, va_recv hK hP (ci := 3) (q0 := 0) rfl rfl, fun U hU hW => ⟨rfl, by rw [hU]; exact hP, hX.warm hW⟩⟩ rfl rfl hl.1 rfl (lv_room (Nat.le_of_ble_eq_true rfl)) dX3_effect_6 ⟨Nat.zero_le _, Nat.zero_le _⟩) (fun _ => ?_)
  refine lv_iload hx hb dX3_effect_9 (lv_at hl 4 rfl) ?_
  refine lv_iload hx hb dX3_effect_11 (lv_at hl 5 rfl) ?_
  refine va_csv (W.runS (As := [.int mm, .int vv]) (rest := []) ⟨hx, hb, hml, hown, hts⟩ (k_X3_needBits l mm vv h2) (va_cwS 2 hts gX3_effect_X3_needBits rfl rfl rfl (by decide +kernel) ⟨Nat.le_of_ble_eq_true rfl, Nat.le_of_ble_eq_true rfl⟩) ⟨bl_T, fun U hU hW => ⟨rfl, trivial⟩⟩ rfl rfl hl.1 rfl (lv_room (Nat.le_of_ble_eq_true rfl)) dX3_effect_13 ⟨Nat.zero_le _, Nat.zero_le _⟩) (fun _ => ?_)
  refine lv_iload_n hx hb dX3_effect_16 rfl (lv_at hl 2 rfl) ?_
  refine lv_if_lt (tgt := 25) hx hb dX3_effect_17 (by decide) (fun c17_0 => ?_) (fun c17_0 => ?_)
  · exact absurd c17_0 (nI_pos (by omega))
  · skip
    refine lv_iload_n hx hb dX3_effect_20 rfl (lv_at hl 2 rfl) ?_
    refine lv_iconst (v := 4) hx hb dX3_effect_21 (by decide) ?_
    refine lv_icmp_lt (tgt := 35) hx hb dX3_effect_22 (by decide) (fun c22_1 => ?_) (fun c22_1 => ?_)
    · skip
      refine lv_aload_n hx hb dX3_effect_35 rfl (lv_at hl 0 rfl) ?_
      refine va_get (D := (dC, dI)) (ci := 3) (v := .ref (A 1)) (C := RX3) (T := TX3) (N := 9) hx hb hts hinX3 hown hK hP 0 rfl rfl 0 (by decide) (hts _ (List.mem_of_getElem? (i := 5) rfl)) (fun _ h9 => h9) rfl dX3_effect_36 ?_
      refine lv_iload_n hx hb dX3_effect_39 rfl (lv_at hl 1 rfl) ?_
      refine va_aldq hx hb hK hP 1 1 rfl rfl (vp_in_nI (show a < 8 by omega) (by decide)) dX3_effect_40 ?_
      rw [nI_clamp (show a < 2 ^ 31 by have := (show a < 8 by omega); omega)]
      refine va_getN (D := (dC, dI)) (host := RX3) (ci := 0) (v := .int (ac a 3)) (C := RX0) (T := TX0) (N := 5) hx hb hts hinX0 hown hK hP (8 + a) (hf_act ha) rfl 3 (by decide) (va_Nw.use rfl (hX.2.1 _ (List.mem_of_getElem? (i := 5) rfl))) (fun _ h9 => h9) rfl dX3_effect_41 ?_
      refine lv_iconst (v := 4) hx hb dX3_effect_44 (by decide) ?_
      refine lv_icmp_lt (tgt := 58) hx hb dX3_effect_45 (by decide) (fun c45_2 => ?_) (fun c45_2 => ?_)
      · skip
        refine lv_aload_n hx hb dX3_effect_58 rfl (lv_at hl 0 rfl) ?_
        refine va_get (D := (dC, dI)) (ci := 3) (v := .ref (A 1)) (C := RX3) (T := TX3) (N := 9) hx hb hts hinX3 hown hK hP 0 rfl rfl 0 (by decide) (hts _ (List.mem_of_getElem? (i := 5) rfl)) (fun _ h9 => h9) rfl dX3_effect_59 ?_
        refine lv_iload_n hx hb dX3_effect_62 rfl (lv_at hl 1 rfl) ?_
        refine va_aldq hx hb hK hP 1 1 rfl rfl (vp_in_nI (show a < 8 by omega) (by decide)) dX3_effect_63 ?_
        rw [nI_clamp (show a < 2 ^ 31 by have := (show a < 8 by omega); omega)]
        refine lv_iconst (v := 1) hx hb dX3_effect_64 (by decide) ?_
        refine lv_iload_n hx hb dX3_effect_65 rfl (lv_at hl 2 rfl) ?_
        refine lv_ishl hx hb dX3_effect_66 ?_
        refine lv_iload_n hx hb dX3_effect_67 rfl (lv_at hl 3 rfl) ?_
        refine lv_iload hx hb dX3_effect_68 (lv_at hl 4 rfl) ?_
        refine lv_iload hx hb dX3_effect_70 (lv_at hl 5 rfl) ?_
        refine vp_callSi (W.runS (As := [.int mm, .int vv]) (rest := [.int (b2i mk1), .int (1 <<< ((nI f) &&& 31)), .ref (A (8 + a))]) ⟨hx, hb, hml, hown, hts⟩ (c_X3_demanded l mm vv) (va_cwS 2 hts gX3_effect_X3_demanded rfl rfl rfl (by decide +kernel) ⟨Nat.le_of_ble_eq_true rfl, Nat.le_of_ble_eq_true rfl⟩) ⟨bl_T, fun U hU hW => ⟨rfl, trivial⟩⟩ rfl rfl hl.1 rfl (lv_room (Nat.le_of_ble_eq_true rfl)) dX3_effect_72 ⟨Nat.zero_le _, Nat.zero_le _⟩) (fun r er => ?_)
        obtain rfl : r = mk (demF mm vv) := er
        have hFc := hf_free (σ := ((cl, st, go, hi, ma), (ct, tc), (be, co, ap), tr, ac, nx)) hD hS hA
        refine va_callv (va_runV (As := [.int (1 <<< ((nI f) &&& 31)), .int (b2i mk1), .int (mk (demF mm vv))]) (rest := []) ⟨hx, hb, hml, hown, hts⟩ (c_X0_addEffect l dC dI A cI cQ ((cl, st, go, hi, ma), (ct, tc), (be, co, ap), tr, ac, nx) s.heap.size ha (1 <<< (nI f &&& 31)) mk1 (mk (demF mm vv))) (cwV 3 hts gX3_effect_X0_addEffect rfl rfl rfl (by decide +kernel) ⟨Nat.le_of_ble_eq_true rfl, Nat.le_of_ble_eq_true rfl⟩) ⟨bl_F, va_recv hK hP (ci := 0) (q0 := (8 + a)) rfl (hf_act ha), fun U hU hW => ⟨rfl, by rw [hU], by rw [hU]; exact hP, hX.warm hW, hf_any hD⟩⟩ rfl rfl hl.1 rfl (lv_room (Nat.le_of_ble_eq_true rfl)) dX3_effect_75 ⟨Nat.zero_le _, Nat.zero_le _⟩) hS (fun q _ h => hFc q h) hFc (fun u t H locs ht hvm hw hB hz1 hk1 hS => ?_)
        obtain ⟨hP1, hD1⟩ := hB
        rw [ht] at hP1
        subst hw
        have hP : va_P (dC, dI) vwCl (hfL A cI cQ cl st go hi ma ct tc be co ap tr (up2 ac a 3 (ac a 3 + 1)) (va_up nx a (fillN (nx a) (addG (nx a) (1 <<< (nI f &&& 31)) mk1 (mk (demF mm vv))) 16))) H := hP1
        have hD : va_D V (hfL A cI cQ cl st go hi ma ct tc be co ap tr (up2 ac a 3 (ac a 3 + 1)) (va_up nx a (fillN (nx a) (addG (nx a) (1 <<< (nI f &&& 31)) mk1 (mk (demF mm vv))) 16))) := hf_weak hD1 hFc
        clear hP1 hD1 hFc
        refine lv_aload_n hx hb dX3_effect_78 rfl (lv_at hl 0 rfl) ?_
        refine va_get (D := (dC, dI)) (ci := 3) (v := .ref (A 1)) (C := RX3) (T := TX3) (N := 9) hx hb hts hinX3 hown hK hP 0 rfl rfl 0 (by decide) (hts _ (List.mem_of_getElem? (i := 5) rfl)) (fun _ h9 => h9) rfl dX3_effect_79 ?_
        refine lv_iload_n hx hb dX3_effect_82 rfl (lv_at hl 1 rfl) ?_
        refine va_aldq hx hb hK hP 1 1 rfl rfl (vp_in_nI (show a < 8 by omega) (by decide)) dX3_effect_83 ?_
        rw [nI_clamp (show a < 2 ^ 31 by have := (show a < 8 by omega); omega)]
        refine va_getN (D := (dC, dI)) (host := RX3) (ci := 0) (v := .int (up2 ac a 3 (ac a 3 + 1) a 3)) (C := RX0) (T := TX0) (N := 5) hx hb hts hinX0 hown hK hP (8 + a) (hf_act ha) rfl 3 (by decide) (va_Nw.use rfl (hX.2.1 _ (List.mem_of_getElem? (i := 5) rfl))) (fun _ h9 => h9) rfl dX3_effect_84 ?_
        refine lv_topi (fun y3 ey3 => ?_)
        obtain rfl : y3 = ac a 3 + 1 := ey3.trans (by simp [up2])
        exact W.iret hx hb hr (fun t ht hW => ⟨⟨_, ((cl, st, go, hi, ma), (ct, tc), (be, co, ap), tr, up2 ac a 3 (ac a 3 + 1), va_up nx a (fillN (nx a) (addG (nx a) (1 <<< (nI f &&& 31)) mk1 (mk (demF mm vv))) 16)), rfl, ⟨rfl, rfl⟩, by rw [ht]; exact hP, hD⟩, hS.F ht⟩) hS.2.2 dX3_effect_87
      · exact absurd h3 c45_2
    · exact absurd (nI_lt (b := 4) hf (by decide)) c22_1
set_option maxHeartbeats 4000000 in
set_option maxRecDepth 100000 in
/-- clause -/
theorem o_X3_clause (l : Launch) (dC : Nat → ClassId) (dI : Nat → Nat → Nat) (A : Nat → Nat) (cI cQ : ClassId) (σ : HS) (sz : Nat) (mm vv : Int32) (h2 : okBits mm vv) (h3 : clS σ < 6) : Met l yX3_clause wsX3_clause RMo (va_Pc [.ref (A 0), .int mm, .int vv] (hfF dC dI A cI cQ sz σ)) (va_Qi (fun (r : Int32) (τ : HS) => r = clS σ + 1 ∧ τ = ((clS σ + 1, stS σ &&& mk (alwF mm vv), goS σ, hiS σ, maS σ), σ.2)) (hfB dC dI A cI cQ (va_A (hfW A cI cQ σ) sz)) (va_A (hfW A cI cQ σ) sz)) 0 0 (va_A (hfW A cI cQ σ) sz) := by
  obtain ⟨⟨cl, st, go, hi, ma⟩, ⟨ct, tc⟩, ⟨be, co, ap⟩, tr, ac, nx⟩ := σ
  refine Met.ofW (cc := cX3_clause) (maxL := 3) (ret := (some .int)) (by decide) rfl ?_
  intro p e s m args below meth c s₁ B hml hv
  obtain ⟨rfl, hsz, hP, hX, hD0⟩ := hv
  have hx := B.exec
  have hb := B.bytes
  have hr := B.returns
  have hts := atoms_spec (ws := wsX3_clause) B.pre
  have hown : s.vm.findClass RX3 = some m.cls := findClass_of_methodNamed B.named
  have hlocks := B.notSynchronized
  have hK := hX.1
  have hinX3 : ∀ w ∈ wsX30, w ∈ wsX3_clause := fun _ h => List.mem_cons_of_mem _ (List.mem_append_left _ (List.mem_append_left _ (List.mem_append_right _ h)))
  subst hsz
  have hD := hD0.self (sz := s.heap.size)
  generalize hAe : va_A (hfW A cI cQ _) s.heap.size = V at hD ⊢
  have hA : ∀ q : Nat, s.heap.size ≤ q → V q := fun q h => by rw [← hAe]; exact Or.inr h
  have hS : va_S V s.heap s.heap [] := va_S.rf
  have hl := lv_entry ([.ref (A 0), .int mm, .int vv]) (n := 3) (Nat.le_of_ble_eq_true rfl)
  rw [lg_entry_eq]
  generalize (lg_sl ([.ref (A 0), .int mm, .int vv]) ++ List.replicate (3 - (lg_sl ([.ref (A 0), .int mm, .int vv])).length) Slot.unset).toArray = ls at hl ⊢
  have hl : lv_has ls 3 [(0, .ref (A 0)), (1, .int mm), (2, .int vv)] := hl
  have hP : va_P (dC, dI) vwCl (hfL A cI cQ cl st go hi ma ct tc be co ap tr ac nx) s.heap := hP
  have hD : va_D V (hfL A cI cQ cl st go hi ma ct tc be co ap tr ac nx) := hD
  have h3 : cl < 6 := h3
  refine lv_iload_n hx hb dX3_clause_0 rfl (lv_at hl 1 rfl) ?_
  refine lv_iload_n hx hb dX3_clause_1 rfl (lv_at hl 2 rfl) ?_
  refine va_csv (W.runS (As := [.int mm, .int vv]) (rest := []) ⟨hx, hb, hml, hown, hts⟩ (k_X3_needBits l mm vv h2) (va_cwS 2 hts gX3_clause_X3_needBits rfl rfl rfl (by decide +kernel) ⟨Nat.le_of_ble_eq_true rfl, Nat.le_of_ble_eq_true rfl⟩) ⟨bl_T, fun U hU hW => ⟨rfl, trivial⟩⟩ rfl rfl hl.1 rfl (lv_room (Nat.le_of_ble_eq_true rfl)) dX3_clause_2 ⟨Nat.zero_le _, Nat.zero_le _⟩) (fun _ => ?_)
  refine lv_aload_n hx hb dX3_clause_5 rfl (lv_at hl 0 rfl) ?_
  refine va_get (D := (dC, dI)) (ci := 3) (v := .int cl) (C := RX3) (T := TX3) (N := 9) hx hb hts hinX3 hown hK hP 0 rfl rfl 4 (by decide) (hts _ (List.mem_of_getElem? (i := 3) rfl)) (fun _ h9 => h9) rfl dX3_clause_6 ?_
  refine lv_bipush (v := 6) hx hb dX3_clause_9 (by decide) ?_
  refine lv_icmp_lt (tgt := 24) hx hb dX3_clause_11 (by decide) (fun c11_0 => ?_) (fun c11_0 => ?_)
  · skip
    refine lv_aload_n hx hb dX3_clause_24 rfl (lv_at hl 0 rfl) ?_
    refine lv_dup hx hb dX3_clause_25 rfl ?_
    refine va_get (D := (dC, dI)) (ci := 3) (v := .int st) (C := RX3) (T := TX3) (N := 9) hx hb hts hinX3 hown hK hP 0 rfl rfl 5 (by decide) (hts _ (List.mem_of_getElem? (i := 4) rfl)) (fun _ h9 => h9) rfl dX3_clause_26 ?_
    refine lv_iload_n hx hb dX3_clause_29 rfl (lv_at hl 1 rfl) ?_
    refine lv_iload_n hx hb dX3_clause_30 rfl (lv_at hl 2 rfl) ?_
    refine vp_callSi (W.runS (As := [.int mm, .int vv]) (rest := [.int st, .ref (A 0)]) ⟨hx, hb, hml, hown, hts⟩ (c_X3_allowed l mm vv) (va_cwS 2 hts gX3_clause_X3_allowed rfl rfl rfl (by decide +kernel) ⟨Nat.le_of_ble_eq_true rfl, Nat.le_of_ble_eq_true rfl⟩) ⟨bl_T, fun U hU hW => ⟨rfl, trivial⟩⟩ rfl rfl hl.1 rfl (lv_room (Nat.le_of_ble_eq_true rfl)) dX3_clause_31 ⟨Nat.zero_le _, Nat.zero_le _⟩) (fun r er => ?_)
    obtain rfl : r = mk (alwF mm vv) := er
    refine lv_iand hx hb dX3_clause_34 ?_
    refine va_put (D := (dC, dI)) (ci := 3) (v := .int (st &&& (mk (alwF mm vv)))) (ty := .int) (C := RX3) (T := TX3) (N := 9) hx hb hts hinX3 tyX3 tyX3_ok nmX3 hown hK hP hD hS 0 rfl rfl 5 (by decide) (hts _ (List.mem_of_getElem? (i := 4) rfl)) (fun _ h9 => h9) rfl (by decide +kernel) rfl rfl (Nat.le_of_ble_eq_true rfl) dX3_clause_35 (fun H locs hP hD hS => ?_)
    have hP : va_P (dC, dI) vwCl (hfL A cI cQ cl (st &&& (mk (alwF mm vv))) go hi ma ct tc be co ap tr ac nx) H := hP
    have hD : va_D V (hfL A cI cQ cl (st &&& (mk (alwF mm vv))) go hi ma ct tc be co ap tr ac nx) := hD
    refine lv_aload_n hx hb dX3_clause_38 rfl (lv_at hl 0 rfl) ?_
    refine lv_dup hx hb dX3_clause_39 rfl ?_
    refine va_get (D := (dC, dI)) (ci := 3) (v := .int cl) (C := RX3) (T := TX3) (N := 9) hx hb hts hinX3 hown hK hP 0 rfl rfl 4 (by decide) (hts _ (List.mem_of_getElem? (i := 3) rfl)) (fun _ h9 => h9) rfl dX3_clause_40 ?_
    refine lv_iconst (v := 1) hx hb dX3_clause_43 (by decide) ?_
    refine lv_iadd hx hb dX3_clause_44 ?_
    refine va_put (D := (dC, dI)) (ci := 3) (v := .int (cl + 1)) (ty := .int) (C := RX3) (T := TX3) (N := 9) hx hb hts hinX3 tyX3 tyX3_ok nmX3 hown hK hP hD hS 0 rfl rfl 4 (by decide) (hts _ (List.mem_of_getElem? (i := 3) rfl)) (fun _ h9 => h9) rfl (by decide +kernel) rfl rfl (Nat.le_of_ble_eq_true rfl) dX3_clause_45 (fun H locs hP hD hS => ?_)
    have hP : va_P (dC, dI) vwCl (hfL A cI cQ (cl + 1) (st &&& (mk (alwF mm vv))) go hi ma ct tc be co ap tr ac nx) H := hP
    have hD : va_D V (hfL A cI cQ (cl + 1) (st &&& (mk (alwF mm vv))) go hi ma ct tc be co ap tr ac nx) := hD
    refine lv_aload_n hx hb dX3_clause_48 rfl (lv_at hl 0 rfl) ?_
    refine va_get (D := (dC, dI)) (ci := 3) (v := .int (cl + 1)) (C := RX3) (T := TX3) (N := 9) hx hb hts hinX3 hown hK hP 0 rfl rfl 4 (by decide) (hts _ (List.mem_of_getElem? (i := 3) rfl)) (fun _ h9 => h9) rfl dX3_clause_49 ?_
    exact W.iret hx hb hr (fun t ht hW => ⟨⟨_, ((cl + 1, st &&& (mk (alwF mm vv)), go, hi, ma), (ct, tc), (be, co, ap), tr, ac, nx), rfl, ⟨rfl, rfl⟩, by rw [ht]; exact hP, hD⟩, hS.F ht⟩) hS.2.2 dX3_clause_52
  · exact absurd h3 c11_0
set_option maxHeartbeats 4000000 in
set_option maxRecDepth 100000 in
/-- goal -/
theorem o_X3_goal (l : Launch) (dC : Nat → ClassId) (dI : Nat → Nat → Nat) (A : Nat → Nat) (cI cQ : ClassId) (σ : HS) (sz : Nat) (mm vv : Int32) (h2 : okBits mm vv) : Met l yX3_goal wsX3_goal RMo (va_Pc [.ref (A 0), .int mm, .int vv] (hfF dC dI A cI cQ sz σ)) (va_Qi (fun (r : Int32) (τ : HS) => r = bcF (mk (demF mm vv)) ∧ τ = ((clS σ, stS σ, mk (demF mm vv), hiS σ, maS σ), σ.2)) (hfB dC dI A cI cQ (va_A (hfW A cI cQ σ) sz)) (va_A (hfW A cI cQ σ) sz)) 0 0 (va_A (hfW A cI cQ σ) sz) := by
  obtain ⟨⟨cl, st, go, hi, ma⟩, ⟨ct, tc⟩, ⟨be, co, ap⟩, tr, ac, nx⟩ := σ
  refine Met.ofW (cc := cX3_goal) (maxL := 3) (ret := (some .int)) (by decide) rfl ?_
  intro p e s m args below meth c s₁ B hml hv
  obtain ⟨rfl, hsz, hP, hX, hD0⟩ := hv
  have hx := B.exec
  have hb := B.bytes
  have hr := B.returns
  have hts := atoms_spec (ws := wsX3_goal) B.pre
  have hown : s.vm.findClass RX3 = some m.cls := findClass_of_methodNamed B.named
  have hlocks := B.notSynchronized
  have hK := hX.1
  have hinX3 : ∀ w ∈ wsX30, w ∈ wsX3_goal := fun _ h => List.mem_cons_of_mem _ (List.mem_append_left _ (List.mem_append_right _ h))
  subst hsz
  have hD := hD0.self (sz := s.heap.size)
  generalize hAe : va_A (hfW A cI cQ _) s.heap.size = V at hD ⊢
  have hA : ∀ q : Nat, s.heap.size ≤ q → V q := fun q h => by rw [← hAe]; exact Or.inr h
  have hS : va_S V s.heap s.heap [] := va_S.rf
  have hl := lv_entry ([.ref (A 0), .int mm, .int vv]) (n := 3) (Nat.le_of_ble_eq_true rfl)
  rw [lg_entry_eq]
  generalize (lg_sl ([.ref (A 0), .int mm, .int vv]) ++ List.replicate (3 - (lg_sl ([.ref (A 0), .int mm, .int vv])).length) Slot.unset).toArray = ls at hl ⊢
  have hl : lv_has ls 3 [(0, .ref (A 0)), (1, .int mm), (2, .int vv)] := hl
  have hP : va_P (dC, dI) vwCl (hfL A cI cQ cl st go hi ma ct tc be co ap tr ac nx) s.heap := hP
  have hD : va_D V (hfL A cI cQ cl st go hi ma ct tc be co ap tr ac nx) := hD
  refine lv_iload_n hx hb dX3_goal_0 rfl (lv_at hl 1 rfl) ?_
  refine lv_iload_n hx hb dX3_goal_1 rfl (lv_at hl 2 rfl) ?_
  refine va_csv (W.runS (As := [.int mm, .int vv]) (rest := []) ⟨hx, hb, hml, hown, hts⟩ (k_X3_needBits l mm vv h2) (va_cwS 2 hts gX3_goal_X3_needBits rfl rfl rfl (by decide +kernel) ⟨Nat.le_of_ble_eq_true rfl, Nat.le_of_ble_eq_true rfl⟩) ⟨bl_T, fun U hU hW => ⟨rfl, trivial⟩⟩ rfl rfl hl.1 rfl (lv_room (Nat.le_of_ble_eq_true rfl)) dX3_goal_2 ⟨Nat.zero_le _, Nat.zero_le _⟩) (fun _ => ?_)
  refine lv_aload_n hx hb dX3_goal_5 rfl (lv_at hl 0 rfl) ?_
  refine lv_iload_n hx hb dX3_goal_6 rfl (lv_at hl 1 rfl) ?_
  refine lv_iload_n hx hb dX3_goal_7 rfl (lv_at hl 2 rfl) ?_
  refine vp_callSi (W.runS (As := [.int mm, .int vv]) (rest := [.ref (A 0)]) ⟨hx, hb, hml, hown, hts⟩ (c_X3_demanded l mm vv) (va_cwS 2 hts gX3_goal_X3_demanded rfl rfl rfl (by decide +kernel) ⟨Nat.le_of_ble_eq_true rfl, Nat.le_of_ble_eq_true rfl⟩) ⟨bl_T, fun U hU hW => ⟨rfl, trivial⟩⟩ rfl rfl hl.1 rfl (lv_room (Nat.le_of_ble_eq_true rfl)) dX3_goal_8 ⟨Nat.zero_le _, Nat.zero_le _⟩) (fun r er => ?_)
  obtain rfl : r = mk (demF mm vv) := er
  refine va_put (D := (dC, dI)) (ci := 3) (v := .int (mk (demF mm vv))) (ty := .int) (C := RX3) (T := TX3) (N := 9) hx hb hts hinX3 tyX3 tyX3_ok nmX3 hown hK hP hD hS 0 rfl rfl 6 (by decide) (hts _ (List.mem_of_getElem? (i := 1) rfl)) (fun _ h9 => h9) rfl (by decide +kernel) rfl rfl (Nat.le_of_ble_eq_true rfl) dX3_goal_11 (fun H locs hP hD hS => ?_)
  have hP : va_P (dC, dI) vwCl (hfL A cI cQ cl st (mk (demF mm vv)) hi ma ct tc be co ap tr ac nx) H := hP
  have hD : va_D V (hfL A cI cQ cl st (mk (demF mm vv)) hi ma ct tc be co ap tr ac nx) := hD
  refine lv_aload_n hx hb dX3_goal_14 rfl (lv_at hl 0 rfl) ?_
  refine va_get (D := (dC, dI)) (ci := 3) (v := .int (mk (demF mm vv))) (C := RX3) (T := TX3) (N := 9) hx hb hts hinX3 hown hK hP 0 rfl rfl 6 (by decide) (hts _ (List.mem_of_getElem? (i := 1) rfl)) (fun _ h9 => h9) rfl dX3_goal_15 ?_
  refine vp_callSi (W.runS (As := [.int (mk (demF mm vv))]) (rest := []) ⟨hx, hb, hml, hown, hts⟩ (c_bitCount l (mk (demF mm vv))) (va_cwS 1 hts gX3_goal_J6_bitCount_0f7a4 rfl rfl rfl (by decide +kernel) ⟨Nat.le_of_ble_eq_true rfl, Nat.le_of_ble_eq_true rfl⟩) ⟨bl_T, fun U hU hW => ⟨rfl, trivial⟩⟩ rfl rfl hl.1 rfl (lv_room (Nat.le_of_ble_eq_true rfl)) dX3_goal_18 ⟨Nat.zero_le _, Nat.zero_le _⟩) (fun r er => ?_)
  obtain rfl : r = bcF (mk (demF mm vv)) := er
  exact W.iret hx hb hr (fun t ht hW => ⟨⟨_, ((cl, st, mk (demF mm vv), hi, ma), (ct, tc), (be, co, ap), tr, ac, nx), rfl, ⟨rfl, rfl⟩, by rw [ht]; exact hP, hD⟩, hS.F ht⟩) hS.2.2 dX3_goal_21
set_option maxHeartbeats 4000000 in
set_option maxRecDepth 100000 in
/-- plan -/
theorem o_X3_plan (l : Launch) (dC : Nat → ClassId) (dI : Nat → Nat → Nat) (A : Nat → Nat) (cI cQ : ClassId) (σ : HS) (sz : Nat) {q : Nat} (hq : q ≤ 4) {n : Nat} (h1 : ¬ stS σ = 0) (h : fewS σ (stS σ) q = some n) : Met l yX3_plan wsX3_plan RMo (va_Pc [.ref (A 0), .int (nI q)] (hfF dC dI A cI cQ sz σ)) (va_Qi (fun (r : Int32) (τ : HS) => r = nI n ∧ τ = (σ.1, (nI (grS σ n (stS σ) 0 (tcS σ)).2.1, (grS σ n (stS σ) 0 (tcS σ)).2.2), σ.2.2)) (hfB dC dI A cI cQ (va_A (hfW A cI cQ σ) sz)) (va_A (hfW A cI cQ σ) sz)) 0 0 (va_A (hfW A cI cQ σ) sz) := by
  obtain ⟨⟨cl, st, go, hi, ma⟩, ⟨ct, tc⟩, ⟨be, co, ap⟩, tr, ac, nx⟩ := σ
  refine Met.ofW (cc := cX3_plan) (maxL := 3) (ret := (some .int)) (by decide) rfl ?_
  intro p e s m args below meth c s₁ B hml hv
  obtain ⟨rfl, hsz, hP, hX, hD0⟩ := hv
  have hx := B.exec
  have hb := B.bytes
  have hr := B.returns
  have hts := atoms_spec (ws := wsX3_plan) B.pre
  have hown : s.vm.findClass RX3 = some m.cls := findClass_of_methodNamed B.named
  have hlocks := B.notSynchronized
  have hK := hX.1
  have hinX3 : ∀ w ∈ wsX30, w ∈ wsX3_plan := fun _ h => List.mem_cons_of_mem _ (List.mem_append_left _ (List.mem_append_left _ (List.mem_append_left _ (List.mem_append_left _ (List.mem_append_left _ (List.mem_append_right _ h))))))
  subst hsz
  have hD := hD0.self (sz := s.heap.size)
  generalize hAe : va_A (hfW A cI cQ _) s.heap.size = V at hD ⊢
  have hA : ∀ q : Nat, s.heap.size ≤ q → V q := fun q h => by rw [← hAe]; exact Or.inr h
  have hS : va_S V s.heap s.heap [] := va_S.rf
  have hl := lv_entry ([.ref (A 0), .int (nI q)]) (n := 3) (Nat.le_of_ble_eq_true rfl)
  rw [lg_entry_eq]
  generalize (lg_sl ([.ref (A 0), .int (nI q)]) ++ List.replicate (3 - (lg_sl ([.ref (A 0), .int (nI q)])).length) Slot.unset).toArray = ls at hl ⊢
  have hl : lv_has ls 3 [(0, .ref (A 0)), (1, .int (nI q))] := hl
  have hP : va_P (dC, dI) vwCl (hfL A cI cQ cl st go hi ma ct tc be co ap tr ac nx) s.heap := hP
  have hD : va_D V (hfL A cI cQ cl st go hi ma ct tc be co ap tr ac nx) := hD
  have h1 : ¬ st = 0 := h1
  have hn4 := few_le h
  have h : fewS ((cl, st, go, hi, ma), (ct, tc), (be, co, ap), tr, ac, nx) st q = some n := h
  refine lv_iload_n hx hb dX3_plan_0 rfl (lv_at hl 1 rfl) ?_
  refine va_csv (W.runS (As := [.int (nI q)]) (rest := []) ⟨hx, hb, hml, hown, hts⟩ (k_X3_needDepth l (nI q) ⟨nI_pos (by omega), nI_le (b := 4) hq (by decide)⟩) (va_cwS 1 hts gX3_plan_X3_needDepth rfl rfl rfl (by decide +kernel) ⟨Nat.le_of_ble_eq_true rfl, Nat.le_of_ble_eq_true rfl⟩) ⟨bl_T, fun U hU hW => ⟨rfl, trivial⟩⟩ rfl rfl hl.1 rfl (lv_room (Nat.le_of_ble_eq_true rfl)) dX3_plan_1 ⟨Nat.zero_le _, Nat.zero_le _⟩) (fun _ => ?_)
  refine lv_aload_n hx hb dX3_plan_4 rfl (lv_at hl 0 rfl) ?_
  refine va_get (D := (dC, dI)) (ci := 3) (v := .int st) (C := RX3) (T := TX3) (N := 9) hx hb hts hinX3 hown hK hP 0 rfl rfl 5 (by decide) (hts _ (List.mem_of_getElem? (i := 3) rfl)) (fun _ h9 => h9) rfl dX3_plan_5 ?_
  refine lv_if_ne (tgt := 21) hx hb dX3_plan_8 (by decide) (fun c8_0 => ?_) (fun c8_0 => ?_)
  · skip
    refine lv_aload_n hx hb dX3_plan_21 rfl (lv_at hl 0 rfl) ?_
    refine lv_aload_n hx hb dX3_plan_22 rfl (lv_at hl 0 rfl) ?_
    refine va_get (D := (dC, dI)) (ci := 3) (v := .int st) (C := RX3) (T := TX3) (N := 9) hx hb hts hinX3 hown hK hP 0 rfl rfl 5 (by decide) (hts _ (List.mem_of_getElem? (i := 3) rfl)) (fun _ h9 => h9) rfl dX3_plan_23 ?_
    refine lv_iload_n hx hb dX3_plan_26 rfl (lv_at hl 1 rfl) ?_
    refine vp_callSi (W.runV (As := [.int st, .int (nI q)]) (rest := []) ⟨hx, hb, hml, hown, hts⟩ (c_X3_fewest l dC dI A cI cQ ((cl, st, go, hi, ma), (ct, tc), (be, co, ap), tr, ac, nx) st (q := q) hq) (cwV 2 hts gX3_plan_X3_fewest rfl rfl rfl (by decide +kernel) ⟨Nat.le_of_ble_eq_true rfl, Nat.le_of_ble_eq_true rfl⟩) ⟨bl_P, va_recv hK hP (ci := 3) (q0 := 0) rfl rfl, fun U hU hW => ⟨rfl, by rw [hU]; exact hP, hX.warm hW⟩⟩ rfl rfl hl.1 rfl (lv_room (Nat.le_of_ble_eq_true rfl)) dX3_plan_27 ⟨Nat.zero_le _, Nat.zero_le _⟩) (fun r er => ?_)
    obtain rfl : r = o2i (fewS ((cl, st, go, hi, ma), (ct, tc), (be, co, ap), tr, ac, nx) st q) := er
    refine vp_callSi (W.runS (As := [.int (o2i (fewS ((cl, st, go, hi, ma), (ct, tc), (be, co, ap), tr, ac, nx) st q))]) (rest := []) ⟨hx, hb, hml, hown, hts⟩ (k_X3_needSolved l (o2i (fewS ((cl, st, go, hi, ma), (ct, tc), (be, co, ap), tr, ac, nx) st q)) (fun z => by have z2 := (o2i_none (o := fewS ((cl, st, go, hi, ma), (ct, tc), (be, co, ap), tr, ac, nx) st q) (fun a h9 => by have := few_le h9; omega)).mp z; rw [show fewS ((cl, st, go, hi, ma), (ct, tc), (be, co, ap), tr, ac, nx) st q = some n from h] at z2; cases z2)) (va_cwS 1 hts gX3_plan_X3_needSolved rfl rfl rfl (by decide +kernel) ⟨Nat.le_of_ble_eq_true rfl, Nat.le_of_ble_eq_true rfl⟩) ⟨bl_T, fun U hU hW => ⟨rfl, trivial⟩⟩ rfl rfl hl.1 rfl (lv_room (Nat.le_of_ble_eq_true rfl)) dX3_plan_30 ⟨Nat.zero_le _, Nat.zero_le _⟩) (fun r er => ?_)
    subst er
    rw [show o2i (fewS ((cl, st, go, hi, ma), (ct, tc), (be, co, ap), tr, ac, nx) st q) = nI n by rw [show fewS ((cl, st, go, hi, ma), (ct, tc), (be, co, ap), tr, ac, nx) st q = some n from h]; rfl]
    refine lv_istore_n (lv' := [(2, .int (nI n)), (0, .ref (A 0)), (1, .int (nI q))]) hx hb dX3_plan_33 rfl hl (by decide) rfl (fun ls hl => ?_)
    refine lv_aload_n hx hb dX3_plan_34 rfl (lv_at hl 1 rfl) ?_
    refine va_get (D := (dC, dI)) (ci := 3) (v := .ref (A 2)) (C := RX3) (T := TX3) (N := 9) hx hb hts hinX3 hown hK hP 0 rfl rfl 1 (by decide) (hts _ (List.mem_of_getElem? (i := 4) rfl)) (fun _ h9 => h9) rfl dX3_plan_35 ?_
    have hFc := hf_free (σ := ((cl, st, go, hi, ma), (ct, tc), (be, co, ap), tr, ac, nx)) hD hS hA
    refine va_callv (va_runV (As := []) (rest := []) ⟨hx, hb, hml, hown, hts⟩ (c_X2_empty l dC dI A cI cQ ((cl, st, go, hi, ma), (ct, tc), (be, co, ap), tr, ac, nx) s.heap.size) (cwV 0 hts gX3_plan_X2_empty rfl rfl rfl (by decide +kernel) ⟨Nat.le_of_ble_eq_true rfl, Nat.le_of_ble_eq_true rfl⟩) ⟨bl_F, va_recv hK hP (ci := 2) (q0 := 2) rfl rfl, fun U hU hW => ⟨rfl, by rw [hU], by rw [hU]; exact hP, hX.warm hW, hf_any hD⟩⟩ rfl rfl hl.1 rfl (lv_room (Nat.le_of_ble_eq_true rfl)) dX3_plan_38 ⟨Nat.zero_le _, Nat.zero_le _⟩) hS (fun q _ h => hFc q h) hFc (fun u t H locs ht hvm hw hB hz1 hk1 hS => ?_)
    obtain ⟨hP1, hD1⟩ := hB
    rw [ht] at hP1
    subst hw
    have hP : va_P (dC, dI) vwCl (hfL A cI cQ cl st go hi ma 0 tc be co ap tr ac nx) H := hP1
    have hD : va_D V (hfL A cI cQ cl st go hi ma 0 tc be co ap tr ac nx) := hf_weak hD1 hFc
    clear hP1 hD1 hFc
    refine lv_aload_n hx hb dX3_plan_41 rfl (lv_at hl 1 rfl) ?_
    refine lv_aload_n hx hb dX3_plan_42 rfl (lv_at hl 1 rfl) ?_
    refine va_get (D := (dC, dI)) (ci := 3) (v := .int st) (C := RX3) (T := TX3) (N := 9) hx hb hts hinX3 hown hK hP 0 rfl rfl 5 (by decide) (hts _ (List.mem_of_getElem? (i := 3) rfl)) (fun _ h9 => h9) rfl dX3_plan_43 ?_
    refine lv_iload_n hx hb dX3_plan_46 rfl (lv_at hl 0 rfl) ?_
    have hFc := hf_free (σ := ((cl, st, go, hi, ma), (0, tc), (be, co, ap), tr, ac, nx)) hD hS hA
    refine va_calli (va_runV (As := [.int st, .int (nI n)]) (rest := []) ⟨hx, hb, hml, hown, hts⟩ (c_X3_grow l dC dI A cI cQ n (by omega) ((cl, st, go, hi, ma), (0, tc), (be, co, ap), tr, ac, nx) H.size 0 st rfl (pow32 (by omega))) (cwV 2 hts gX3_plan_X3_grow rfl rfl rfl (by decide +kernel) ⟨show 3 * n + 5 + 1 ≤ 40 by omega, show 8 + (8 + 11) + (69 * n + 200) ≤ 900 by omega⟩) ⟨bl_F, va_recv hK hP (ci := 3) (q0 := 0) rfl rfl, fun U hU hW => ⟨rfl, by rw [hU], by rw [hU]; exact hP, hX.warm hW, hf_any hD⟩⟩ rfl rfl hl.1 rfl (lv_room (Nat.le_of_ble_eq_true rfl)) dX3_plan_47 ⟨Nat.zero_le _, Nat.zero_le _⟩) hS (fun q _ h => hFc q h) hFc (fun r u t H locs ht hvm hw hB hz1 hk1 hS => ?_)
    obtain ⟨hP1, hD1⟩ := hB
    rw [ht] at hP1
    obtain ⟨rfl, rfl⟩ := hw
    have hP : va_P (dC, dI) vwCl (hfL A cI cQ cl st go hi ma (nI (grS ((cl, st, go, hi, ma), (ct, tc), (be, co, ap), tr, ac, nx) n st 0 tc).2.1) ((grS ((cl, st, go, hi, ma), (ct, tc), (be, co, ap), tr, ac, nx) n st 0 tc).2.2) be co ap tr ac nx) H := hP1
    have hD : va_D V (hfL A cI cQ cl st go hi ma (nI (grS ((cl, st, go, hi, ma), (ct, tc), (be, co, ap), tr, ac, nx) n st 0 tc).2.1) ((grS ((cl, st, go, hi, ma), (ct, tc), (be, co, ap), tr, ac, nx) n st 0 tc).2.2) be co ap tr ac nx) := hf_weak hD1 hFc
    clear hP1 hD1 hFc
    refine lv_pop hx hb dX3_plan_50 rfl ?_
    refine lv_iload_n hx hb dX3_plan_51 rfl (lv_at hl 0 rfl) ?_
    exact W.iret hx hb hr (fun t ht hW => ⟨⟨_, ((cl, st, go, hi, ma), (nI (grS ((cl, st, go, hi, ma), (ct, tc), (be, co, ap), tr, ac, nx) n st 0 tc).2.1, (grS ((cl, st, go, hi, ma), (ct, tc), (be, co, ap), tr, ac, nx) n st 0 tc).2.2), (be, co, ap), tr, ac, nx), rfl, ⟨rfl, rfl⟩, by rw [ht]; exact hP, hD⟩, hS.F ht⟩) hS.2.2 dX3_plan_52
  · exact absurd c8_0 h1
set_option maxHeartbeats 4000000 in
set_option maxRecDepth 100000 in
/-- edit -/
theorem o_X3_edit (l : Launch) (dC : Nat → ClassId) (dI : Nat → Nat → Nat) (A : Nat → Nat) (cI cQ : ClassId) (σ : HS) (sz : Nat) {i : Nat} (hi31 : i < 31) {a : Nat} (ha : a < 8) (h1 : ¬ nI i < 0 ∧ nI i < ctS σ) (h2 : ¬ acS σ a 0 = 0) (h3 : ¬ tcS σ (3 * i + 0) = -1) : Met l yX3_edit wsX3_edit RMo (va_Pc [.ref (A 0), .int (nI i), .int (nI a)] (hfF dC dI A cI cQ sz σ)) (va_Qi (fun (r : Int32) (τ : HS) => r = tcS σ (3 * i + 0) ∧ τ = (σ.1, (ctS σ, upd (tcS σ) (3 * i) (nI a)), σ.2.2)) (hfB dC dI A cI cQ (va_A (hfW A cI cQ σ) sz)) (va_A (hfW A cI cQ σ) sz)) 0 0 (va_A (hfW A cI cQ σ) sz) := by
  obtain ⟨⟨cl, st, go, hi, ma⟩, ⟨ct, tc⟩, ⟨be, co, ap⟩, tr, ac, nx⟩ := σ
  refine Met.ofW (cc := cX3_edit) (maxL := 4) (ret := (some .int)) (by decide) rfl ?_
  intro p e s m args below meth c s₁ B hml hv
  obtain ⟨rfl, hsz, hP, hX, hD0⟩ := hv
  have hx := B.exec
  have hb := B.bytes
  have hr := B.returns
  have hts := atoms_spec (ws := wsX3_edit) B.pre
  have hown : s.vm.findClass RX3 = some m.cls := findClass_of_methodNamed B.named
  have hlocks := B.notSynchronized
  have hK := hX.1
  have hinX3 : ∀ w ∈ wsX30, w ∈ wsX3_edit := fun _ h => List.mem_cons_of_mem _ (List.mem_append_left _ (List.mem_append_left _ (List.mem_append_left _ (List.mem_append_left _ (List.mem_append_left _ (List.mem_append_right _ h))))))
  subst hsz
  have hD := hD0.self (sz := s.heap.size)
  generalize hAe : va_A (hfW A cI cQ _) s.heap.size = V at hD ⊢
  have hA : ∀ q : Nat, s.heap.size ≤ q → V q := fun q h => by rw [← hAe]; exact Or.inr h
  have hS : va_S V s.heap s.heap [] := va_S.rf
  have hl := lv_entry ([.ref (A 0), .int (nI i), .int (nI a)]) (n := 4) (Nat.le_of_ble_eq_true rfl)
  rw [lg_entry_eq]
  generalize (lg_sl ([.ref (A 0), .int (nI i), .int (nI a)]) ++ List.replicate (4 - (lg_sl ([.ref (A 0), .int (nI i), .int (nI a)])).length) Slot.unset).toArray = ls at hl ⊢
  have hl : lv_has ls 4 [(0, .ref (A 0)), (1, .int (nI i)), (2, .int (nI a))] := hl
  have hP : va_P (dC, dI) vwCl (hfL A cI cQ cl st go hi ma ct tc be co ap tr ac nx) s.heap := hP
  have hD : va_D V (hfL A cI cQ cl st go hi ma ct tc be co ap tr ac nx) := hD
  have h1 : ¬ nI i < 0 ∧ nI i < ct := h1
  have h2 : ¬ ac a 0 = 0 := h2
  have h3 : ¬ tc (3 * i + 0) = -1 := h3
  refine lv_aload_n hx hb dX3_edit_0 rfl (lv_at hl 0 rfl) ?_
  refine lv_iload_n hx hb dX3_edit_1 rfl (lv_at hl 1 rfl) ?_
  refine va_csv (W.runV (As := [.int (nI i)]) (rest := []) ⟨hx, hb, hml, hown, hts⟩ (k_X3_needNode l dC dI A cI cQ ((cl, st, go, hi, ma), (ct, tc), (be, co, ap), tr, ac, nx) (nI i) h1) (cwV 1 hts gX3_edit_X3_needNode rfl rfl rfl (by decide +kernel) ⟨Nat.le_of_ble_eq_true rfl, Nat.le_of_ble_eq_true rfl⟩) ⟨bl_P, va_recv hK hP (ci := 3) (q0 := 0) rfl rfl, fun U hU hW => ⟨rfl, by rw [hU]; exact hP, hX.warm hW⟩⟩ rfl rfl hl.1 rfl (lv_room (Nat.le_of_ble_eq_true rfl)) dX3_edit_2 ⟨Nat.zero_le _, Nat.zero_le _⟩) (fun _ => ?_)
  refine lv_iload_n hx hb dX3_edit_5 rfl (lv_at hl 2 rfl) ?_
  refine va_csv (W.runS (As := [.int (nI a)]) (rest := []) ⟨hx, hb, hml, hown, hts⟩ (k_X3_needNumber l (nI a) ⟨nI_pos (by omega), nI_lt (b := 8) ha (by decide)⟩) (va_cwS 1 hts gX3_edit_X3_needNumber rfl rfl rfl (by decide +kernel) ⟨Nat.le_of_ble_eq_true rfl, Nat.le_of_ble_eq_true rfl⟩) ⟨bl_T, fun U hU hW => ⟨rfl, trivial⟩⟩ rfl rfl hl.1 rfl (lv_room (Nat.le_of_ble_eq_true rfl)) dX3_edit_6 ⟨Nat.zero_le _, Nat.zero_le _⟩) (fun _ => ?_)
  refine lv_aload_n hx hb dX3_edit_9 rfl (lv_at hl 0 rfl) ?_
  refine lv_iload_n hx hb dX3_edit_10 rfl (lv_at hl 2 rfl) ?_
  refine va_csv (W.runV (As := [.int (nI a)]) (rest := []) ⟨hx, hb, hml, hown, hts⟩ (k_X3_needThere l dC dI A cI cQ ((cl, st, go, hi, ma), (ct, tc), (be, co, ap), tr, ac, nx) (a := a) ha h2) (cwV 1 hts gX3_edit_X3_needThere rfl rfl rfl (by decide +kernel) ⟨Nat.le_of_ble_eq_true rfl, Nat.le_of_ble_eq_true rfl⟩) ⟨bl_P, va_recv hK hP (ci := 3) (q0 := 0) rfl rfl, fun U hU hW => ⟨rfl, by rw [hU]; exact hP, hX.warm hW⟩⟩ rfl rfl hl.1 rfl (lv_room (Nat.le_of_ble_eq_true rfl)) dX3_edit_11 ⟨Nat.zero_le _, Nat.zero_le _⟩) (fun _ => ?_)
  refine lv_aload_n hx hb dX3_edit_14 rfl (lv_at hl 0 rfl) ?_
  refine va_get (D := (dC, dI)) (ci := 3) (v := .ref (A 2)) (C := RX3) (T := TX3) (N := 9) hx hb hts hinX3 hown hK hP 0 rfl rfl 1 (by decide) (hts _ (List.mem_of_getElem? (i := 3) rfl)) (fun _ h9 => h9) rfl dX3_edit_15 ?_
  refine lv_iload_n hx hb dX3_edit_18 rfl (lv_at hl 1 rfl) ?_
  refine lv_iconst (v := 0) hx hb dX3_edit_19 (by decide) ?_
  refine vp_callSi (W.runV (As := [.int (nI i), .int (nI 0)]) (rest := []) ⟨hx, hb, hml, hown, hts⟩ (c_X2_cell l dC dI A cI cQ ((cl, st, go, hi, ma), (ct, tc), (be, co, ap), tr, ac, nx) (i := i) (j := 0) (by omega)) (cwV 2 hts gX3_edit_X2_cell rfl rfl rfl (by decide +kernel) ⟨Nat.le_of_ble_eq_true rfl, Nat.le_of_ble_eq_true rfl⟩) ⟨bl_P, va_recv hK hP (ci := 2) (q0 := 2) rfl rfl, fun U hU hW => ⟨rfl, by rw [hU]; exact hP, hX.warm hW⟩⟩ rfl rfl hl.1 rfl (lv_room (Nat.le_of_ble_eq_true rfl)) dX3_edit_20 ⟨Nat.zero_le _, Nat.zero_le _⟩) (fun r er => ?_)
  obtain rfl : r = tc (3 * i + 0) := er
  refine lv_istore_n (lv' := [(3, .int (tc (3 * i + 0))), (0, .ref (A 0)), (1, .int (nI i)), (2, .int (nI a))]) hx hb dX3_edit_23 rfl hl (by decide) rfl (fun ls hl => ?_)
  refine lv_iload_n hx hb dX3_edit_24 rfl (lv_at hl 0 rfl) ?_
  refine lv_iconst (v := (-1)) hx hb dX3_edit_25 (by decide) ?_
  refine lv_icmp_ne (tgt := 39) hx hb dX3_edit_26 (by decide) (fun c26_0 => ?_) (fun c26_0 => ?_)
  · skip
    refine lv_aload_n hx hb dX3_edit_39 rfl (lv_at hl 1 rfl) ?_
    refine va_get (D := (dC, dI)) (ci := 3) (v := .ref (A 2)) (C := RX3) (T := TX3) (N := 9) hx hb hts hinX3 hown hK hP 0 rfl rfl 1 (by decide) (hts _ (List.mem_of_getElem? (i := 3) rfl)) (fun _ h9 => h9) rfl dX3_edit_40 ?_
    refine lv_iload_n hx hb dX3_edit_43 rfl (lv_at hl 2 rfl) ?_
    refine lv_iload_n hx hb dX3_edit_44 rfl (lv_at hl 3 rfl) ?_
    have hFc := hf_free (σ := ((cl, st, go, hi, ma), (ct, tc), (be, co, ap), tr, ac, nx)) hD hS hA
    refine va_callv (va_runV (As := [.int (nI i), .int (nI a)]) (rest := []) ⟨hx, hb, hml, hown, hts⟩ (c_X2_setAction l dC dI A cI cQ ((cl, st, go, hi, ma), (ct, tc), (be, co, ap), tr, ac, nx) s.heap.size (i := i) hi31 (nI a)) (cwV 2 hts gX3_edit_X2_setAction rfl rfl rfl (by decide +kernel) ⟨Nat.le_of_ble_eq_true rfl, Nat.le_of_ble_eq_true rfl⟩) ⟨bl_F, va_recv hK hP (ci := 2) (q0 := 2) rfl rfl, fun U hU hW => ⟨rfl, by rw [hU], by rw [hU]; exact hP, hX.warm hW, hf_any hD⟩⟩ rfl rfl hl.1 rfl (lv_room (Nat.le_of_ble_eq_true rfl)) dX3_edit_45 ⟨Nat.zero_le _, Nat.zero_le _⟩) hS (fun q _ h => hFc q h) hFc (fun u t H locs ht hvm hw hB hz1 hk1 hS => ?_)
    obtain ⟨hP1, hD1⟩ := hB
    rw [ht] at hP1
    subst hw
    have hP : va_P (dC, dI) vwCl (hfL A cI cQ cl st go hi ma ct (upd tc (3 * i) (nI a)) be co ap tr ac nx) H := hP1
    have hD : va_D V (hfL A cI cQ cl st go hi ma ct (upd tc (3 * i) (nI a)) be co ap tr ac nx) := hf_weak hD1 hFc
    clear hP1 hD1 hFc
    refine lv_iload_n hx hb dX3_edit_48 rfl (lv_at hl 0 rfl) ?_
    exact W.iret hx hb hr (fun t ht hW => ⟨⟨_, ((cl, st, go, hi, ma), (ct, upd tc (3 * i) (nI a)), (be, co, ap), tr, ac, nx), rfl, ⟨rfl, rfl⟩, by rw [ht]; exact hP, hD⟩, hS.F ht⟩) hS.2.2 dX3_edit_49
  · exact absurd c26_0 h3
set_option maxHeartbeats 4000000 in
set_option maxRecDepth 100000 in
/-- hide -/
theorem o_X3_hide (l : Launch) (dC : Nat → ClassId) (dI : Nat → Nat → Nat) (A : Nat → Nat) (cI cQ : ClassId) (σ : HS) (sz : Nat) {k : Nat} (hk : k < 16)  : Met l yX3_hide wsX3_hide RMo (va_Pc [.ref (A 0), .int (nI k)] (hfF dC dI A cI cQ sz σ)) (va_Qi (fun (r : Int32) (τ : HS) => r = b2i (bt (stS σ) k) ∧ τ = ((clS σ, stS σ, goS σ, nI k, maS σ), σ.2)) (hfB dC dI A cI cQ (va_A (hfW A cI cQ σ) sz)) (va_A (hfW A cI cQ σ) sz)) 0 0 (va_A (hfW A cI cQ σ) sz) := by
  obtain ⟨⟨cl, st, go, hi, ma⟩, ⟨ct, tc⟩, ⟨be, co, ap⟩, tr, ac, nx⟩ := σ
  refine Met.ofW (cc := cX3_hide) (maxL := 2) (ret := (some .boolean)) (by decide) rfl ?_
  intro p e s m args below meth c s₁ B hml hv
  obtain ⟨rfl, hsz, hP, hX, hD0⟩ := hv
  have hx := B.exec
  have hb := B.bytes
  have hr := B.returns
  have hts := atoms_spec (ws := wsX3_hide) B.pre
  have hown : s.vm.findClass RX3 = some m.cls := findClass_of_methodNamed B.named
  have hlocks := B.notSynchronized
  have hK := hX.1
  have hinX3 : ∀ w ∈ wsX30, w ∈ wsX3_hide := fun _ h => List.mem_cons_of_mem _ (List.mem_append_left _ (List.mem_append_right _ h))
  subst hsz
  have hD := hD0.self (sz := s.heap.size)
  generalize hAe : va_A (hfW A cI cQ _) s.heap.size = V at hD ⊢
  have hA : ∀ q : Nat, s.heap.size ≤ q → V q := fun q h => by rw [← hAe]; exact Or.inr h
  have hS : va_S V s.heap s.heap [] := va_S.rf
  have hl := lv_entry ([.ref (A 0), .int (nI k)]) (n := 2) (Nat.le_of_ble_eq_true rfl)
  rw [lg_entry_eq]
  generalize (lg_sl ([.ref (A 0), .int (nI k)]) ++ List.replicate (2 - (lg_sl ([.ref (A 0), .int (nI k)])).length) Slot.unset).toArray = ls at hl ⊢
  have hl : lv_has ls 2 [(0, .ref (A 0)), (1, .int (nI k))] := hl
  have hP : va_P (dC, dI) vwCl (hfL A cI cQ cl st go hi ma ct tc be co ap tr ac nx) s.heap := hP
  have hD : va_D V (hfL A cI cQ cl st go hi ma ct tc be co ap tr ac nx) := hD
  refine lv_iload_n hx hb dX3_hide_0 rfl (lv_at hl 1 rfl) ?_
  refine lv_if_lt (tgt := 10) hx hb dX3_hide_1 (by decide) (fun c1_0 => ?_) (fun c1_0 => ?_)
  · exact absurd c1_0 (nI_pos (by omega))
  · skip
    refine lv_iload_n hx hb dX3_hide_4 rfl (lv_at hl 1 rfl) ?_
    refine lv_bipush (v := 16) hx hb dX3_hide_5 (by decide) ?_
    refine lv_icmp_lt (tgt := 20) hx hb dX3_hide_7 (by decide) (fun c7_1 => ?_) (fun c7_1 => ?_)
    · skip
      refine lv_aload_n hx hb dX3_hide_20 rfl (lv_at hl 0 rfl) ?_
      refine lv_iload_n hx hb dX3_hide_21 rfl (lv_at hl 1 rfl) ?_
      refine va_put (D := (dC, dI)) (ci := 3) (v := .int (nI k)) (ty := .int) (C := RX3) (T := TX3) (N := 9) hx hb hts hinX3 tyX3 tyX3_ok nmX3 hown hK hP hD hS 0 rfl rfl 7 (by decide) (hts _ (List.mem_of_getElem? (i := 3) rfl)) (fun _ h9 => h9) rfl (by decide +kernel) rfl rfl (Nat.le_of_ble_eq_true rfl) dX3_hide_22 (fun H locs hP hD hS => ?_)
      have hP : va_P (dC, dI) vwCl (hfL A cI cQ cl st go (nI k) ma ct tc be co ap tr ac nx) H := hP
      have hD : va_D V (hfL A cI cQ cl st go (nI k) ma ct tc be co ap tr ac nx) := hD
      refine lv_iload_n hx hb dX3_hide_25 rfl (lv_at hl 1 rfl) ?_
      refine lv_aload_n hx hb dX3_hide_26 rfl (lv_at hl 0 rfl) ?_
      refine va_get (D := (dC, dI)) (ci := 3) (v := .int st) (C := RX3) (T := TX3) (N := 9) hx hb hts hinX3 hown hK hP 0 rfl rfl 5 (by decide) (hts _ (List.mem_of_getElem? (i := 4) rfl)) (fun _ h9 => h9) rfl dX3_hide_27 ?_
      refine vp_callSi (W.runS (As := [.int (nI k), .int st]) (rest := []) ⟨hx, hb, hml, hown, hts⟩ (c_X3_isIn l (k := k) (by omega) st) (va_cwS 2 hts gX3_hide_X3_isIn rfl rfl rfl (by decide +kernel) ⟨Nat.le_of_ble_eq_true rfl, Nat.le_of_ble_eq_true rfl⟩) ⟨bl_T, fun U hU hW => ⟨rfl, trivial⟩⟩ rfl rfl hl.1 rfl (lv_room (Nat.le_of_ble_eq_true rfl)) dX3_hide_30 ⟨Nat.zero_le _, Nat.zero_le _⟩) (fun r er => ?_)
      obtain rfl : r = b2i (bt st k) := er
      exact W.zret hx hb hr (b2i_nar _) (fun t ht hW => ⟨⟨_, ((cl, st, go, nI k, ma), (ct, tc), (be, co, ap), tr, ac, nx), rfl, ⟨rfl, rfl⟩, by rw [ht]; exact hP, hD⟩, hS.F ht⟩) hS.2.2 dX3_hide_33
    · exact absurd (nI_lt (b := 16) hk (by decide)) c7_1
set_option maxHeartbeats 4000000 in
set_option maxRecDepth 100000 in
/-- execute -/
theorem o_X3_execute (l : Launch) (dC : Nat → ClassId) (dI : Nat → Nat → Nat) (A : Nat → Nat) (cI cQ : ClassId) (σ : HS) (sz : Nat) {c0 : Nat} {ta tp tq : Nat → Option Nat} (hT : tOK (tcS σ) c0 ta tp tq) (hc0 : 0 < c0) {h0 : Nat} (hh : hiS σ = nI h0) (h16 : h0 < 16) (y : Nat → Nat → Nat) (hy1 : ∀ a, a < 8 → ∀ j, j < 16 → nxS σ a j = nI (y a j) ∧ y a j < 16) (h1 : ¬ ctS σ = 0) : Met l yX3_execute wsX3_execute RMo (va_Pc [.ref (A 0)] (hfF dC dI A cI cQ sz σ)) (va_Qi (fun (r : Int32) (τ : HS) => r = b2i (crO (usS σ) y (snS σ) (goS σ) ta tp tq 4 (some 0) h0 0 (trS σ)).1 ∧ τ = ((clS σ, stS σ, goS σ, hiS σ, nI (crO (usS σ) y (snS σ) (goS σ) ta tp tq 4 (some 0) h0 0 (trS σ)).2.1), σ.2.1, σ.2.2.1, (crO (usS σ) y (snS σ) (goS σ) ta tp tq 4 (some 0) h0 0 (trS σ)).2.2, σ.2.2.2.2)) (hfB dC dI A cI cQ (va_A (hfW A cI cQ σ) sz)) (va_A (hfW A cI cQ σ) sz)) 0 0 (va_A (hfW A cI cQ σ) sz) := by
  obtain ⟨⟨cl, st, go, hi, ma⟩, ⟨ct, tc⟩, ⟨be, co, ap⟩, tr, ac, nx⟩ := σ
  refine Met.ofW (cc := cX3_execute) (maxL := 1) (ret := (some .boolean)) (by decide) rfl ?_
  intro p e s m args below meth c s₁ B hml hv
  obtain ⟨rfl, hsz, hP, hX, hD0⟩ := hv
  have hx := B.exec
  have hb := B.bytes
  have hr := B.returns
  have hts := atoms_spec (ws := wsX3_execute) B.pre
  have hown : s.vm.findClass RX3 = some m.cls := findClass_of_methodNamed B.named
  have hlocks := B.notSynchronized
  have hK := hX.1
  have hinX3 : ∀ w ∈ wsX30, w ∈ wsX3_execute := fun _ h => List.mem_cons_of_mem _ (List.mem_append_left _ (List.mem_append_left _ (List.mem_append_left _ (List.mem_append_right _ h))))
  subst hsz
  have hD := hD0.self (sz := s.heap.size)
  generalize hAe : va_A (hfW A cI cQ _) s.heap.size = V at hD ⊢
  have hA : ∀ q : Nat, s.heap.size ≤ q → V q := fun q h => by rw [← hAe]; exact Or.inr h
  have hS : va_S V s.heap s.heap [] := va_S.rf
  have hl := lv_entry ([.ref (A 0)]) (n := 1) (Nat.le_of_ble_eq_true rfl)
  rw [lg_entry_eq]
  generalize (lg_sl ([.ref (A 0)]) ++ List.replicate (1 - (lg_sl ([.ref (A 0)])).length) Slot.unset).toArray = ls at hl ⊢
  have hl : lv_has ls 1 [(0, .ref (A 0))] := hl
  have hP : va_P (dC, dI) vwCl (hfL A cI cQ cl st go hi ma ct tc be co ap tr ac nx) s.heap := hP
  have hD : va_D V (hfL A cI cQ cl st go hi ma ct tc be co ap tr ac nx) := hD
  have h1 : ¬ ct = 0 := h1
  have hhx : hi = nI h0 := hh
  refine lv_aload_n hx hb dX3_execute_0 rfl (lv_at hl 0 rfl) ?_
  refine va_csv (W.runV (As := []) (rest := []) ⟨hx, hb, hml, hown, hts⟩ (k_X3_needPlan l dC dI A cI cQ ((cl, st, go, hi, ma), (ct, tc), (be, co, ap), tr, ac, nx)  h1) (cwV 0 hts gX3_execute_X3_needPlan rfl rfl rfl (by decide +kernel) ⟨Nat.le_of_ble_eq_true rfl, Nat.le_of_ble_eq_true rfl⟩) ⟨bl_P, va_recv hK hP (ci := 3) (q0 := 0) rfl rfl, fun U hU hW => ⟨rfl, by rw [hU]; exact hP, hX.warm hW⟩⟩ rfl rfl hl.1 rfl (lv_room (Nat.le_of_ble_eq_true rfl)) dX3_execute_1 ⟨Nat.zero_le _, Nat.zero_le _⟩) (fun _ => ?_)
  refine lv_aload_n hx hb dX3_execute_4 rfl (lv_at hl 0 rfl) ?_
  refine va_get (D := (dC, dI)) (ci := 3) (v := .int hi) (C := RX3) (T := TX3) (N := 9) hx hb hts hinX3 hown hK hP 0 rfl rfl 7 (by decide) (hts _ (List.mem_of_getElem? (i := 3) rfl)) (fun _ h9 => h9) rfl dX3_execute_5 ?_
  refine lv_iconst (v := (-1)) hx hb dX3_execute_8 (by decide) ?_
  refine lv_icmp_ne (tgt := 22) hx hb dX3_execute_9 (by decide) (fun c9_0 => ?_) (fun c9_0 => ?_)
  · skip
    refine lv_aload_n hx hb dX3_execute_22 rfl (lv_at hl 0 rfl) ?_
    have hFc := hf_free (σ := ((cl, st, go, hi, ma), (ct, tc), (be, co, ap), tr, ac, nx)) hD hS hA
    refine va_calli (va_runV (As := []) (rest := []) ⟨hx, hb, hml, hown, hts⟩ (c_X3_carryOut l dC dI A cI cQ ((cl, st, go, hi, ma), (ct, tc), (be, co, ap), tr, ac, nx) s.heap.size hT hc0 (h0 := h0) hh h16 y hy1) (cwV 0 hts gX3_execute_X3_carryOut rfl rfl rfl (by decide +kernel) ⟨Nat.le_of_ble_eq_true rfl, Nat.le_of_ble_eq_true rfl⟩) ⟨bl_F, va_recv hK hP (ci := 3) (q0 := 0) rfl rfl, fun U hU hW => ⟨rfl, by rw [hU], by rw [hU]; exact hP, hX.warm hW, hf_any hD⟩⟩ rfl rfl hl.1 rfl (lv_room (Nat.le_of_ble_eq_true rfl)) dX3_execute_23 ⟨Nat.zero_le _, Nat.zero_le _⟩) hS (fun q _ h => hFc q h) hFc (fun r u t H locs ht hvm hw hB hz1 hk1 hS => ?_)
    obtain ⟨hP1, hD1⟩ := hB
    rw [ht] at hP1
    obtain ⟨rfl, rfl⟩ := hw
    have hP : va_P (dC, dI) vwCl (hfL A cI cQ cl st go hi (nI (crO (usS ((cl, st, go, hi, ma), (ct, tc), (be, co, ap), tr, ac, nx)) y (snS ((cl, st, go, hi, ma), (ct, tc), (be, co, ap), tr, ac, nx)) go ta tp tq 4 (some 0) h0 0 tr).2.1) ct tc be co ap ((crO (usS ((cl, st, go, hi, ma), (ct, tc), (be, co, ap), tr, ac, nx)) y (snS ((cl, st, go, hi, ma), (ct, tc), (be, co, ap), tr, ac, nx)) go ta tp tq 4 (some 0) h0 0 tr).2.2) ac nx) H := hP1
    have hD : va_D V (hfL A cI cQ cl st go hi (nI (crO (usS ((cl, st, go, hi, ma), (ct, tc), (be, co, ap), tr, ac, nx)) y (snS ((cl, st, go, hi, ma), (ct, tc), (be, co, ap), tr, ac, nx)) go ta tp tq 4 (some 0) h0 0 tr).2.1) ct tc be co ap ((crO (usS ((cl, st, go, hi, ma), (ct, tc), (be, co, ap), tr, ac, nx)) y (snS ((cl, st, go, hi, ma), (ct, tc), (be, co, ap), tr, ac, nx)) go ta tp tq 4 (some 0) h0 0 tr).2.2) ac nx) := hf_weak hD1 hFc
    clear hP1 hD1 hFc
    exact W.zret hx hb hr (b2i_nar _) (fun t ht hW => ⟨⟨_, ((cl, st, go, hi, nI (crO (usS ((cl, st, go, hi, ma), (ct, tc), (be, co, ap), tr, ac, nx)) y (snS ((cl, st, go, hi, ma), (ct, tc), (be, co, ap), tr, ac, nx)) go ta tp tq 4 (some 0) h0 0 tr).2.1), (ct, tc), (be, co, ap), (crO (usS ((cl, st, go, hi, ma), (ct, tc), (be, co, ap), tr, ac, nx)) y (snS ((cl, st, go, hi, ma), (ct, tc), (be, co, ap), tr, ac, nx)) go ta tp tq 4 (some 0) h0 0 tr).2.2, ac, nx), rfl, ⟨rfl, rfl⟩, by rw [ht]; exact hP, hD⟩, hS.F ht⟩) hS.2.2 dX3_execute_26
  · exact absurd c9_0 (fun z => by rw [hhx] at z; have := (o2i_none (o := some h0) (fun a h => by cases h; omega)).mp z; cases this)
