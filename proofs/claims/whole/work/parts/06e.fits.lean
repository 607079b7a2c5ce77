set_option maxHeartbeats 4000000 in
set_option maxRecDepth 100000 in
/-- fits(i, belief, -1) -/
theorem c_X3_fits0 (l : Launch) (dC : Nat → ClassId) (dI : Nat → Nat → Nat) (A : Nat → Nat) (cI cQ : ClassId) (σ : HS) {c0 : Nat} {ta tp tq : Nat → Option Nat} (hT : tOK (tcS σ) c0 ta tp tq) (o : Option Nat) (ho : ∀ k, o = some k → k < c0) (b : Int32) : Met l yX3_fits wsX3_fits { frames := 0 + 3, cells := 0, slots := 0, locals := 25 * 0 + 60 } (va_Pc [.ref (A 0), .int (o2i o), .int b, .int (dpt 0)] (hfP dC dI A cI cQ σ)) (vp_Si (fun r => r = b2i (fitO (usS σ) (ptS σ) (reS σ) ta tp tq 0 o b))) 0 0 (fun _ => False) := by
  have hc31 := hT.1
  refine Met.ofW (cc := cX3_fits) (maxL := 6) (ret := (some .boolean)) (by decide) rfl ?_
  intro p e s m args below meth c s₁ B hml hv
  obtain ⟨rfl, hP, hX⟩ := hv
  have hx := B.exec
  have hb := B.bytes
  have hr := B.returns
  have hts := atoms_spec (ws := wsX3_fits) B.pre
  have hown : s.vm.findClass RX3 = some m.cls := findClass_of_methodNamed B.named
  have hlocks := B.notSynchronized
  have hK := hX.1
  have hinX3 : ∀ w ∈ wsX30, w ∈ wsX3_fits := fun _ h => List.mem_cons_of_mem _ (List.mem_append_left _ (List.mem_append_left _ (List.mem_append_right _ h)))
  have hinX0 : ∀ w ∈ wsX00, w ∈ wsX3_fits := fun _ h => List.mem_cons_of_mem _ (List.mem_append_right _ h)
  have hinX2 : ∀ w ∈ wsX20, w ∈ wsX3_fits := fun _ h => List.mem_cons_of_mem _ (List.mem_append_left _ (List.mem_append_right _ h))
  have hl := lv_entry ([.ref (A 0), .int (o2i o), .int b, .int (dpt 0)]) (n := 6) (Nat.le_of_ble_eq_true rfl)
  rw [lg_entry_eq]
  generalize (lg_sl ([.ref (A 0), .int (o2i o), .int b, .int (dpt 0)]) ++ List.replicate (6 - (lg_sl ([.ref (A 0), .int (o2i o), .int b, .int (dpt 0)])).length) Slot.unset).toArray = ls at hl ⊢
  have hl : lv_has ls 6 [(0, .ref (A 0)), (1, .int (o2i o)), (2, .int b), (3, .int (dpt 0))] := hl
  refine lv_iload_n hx hb dX3_fits_0 rfl (lv_at hl 2 rfl) ?_
  refine lv_if_ne (tgt := 6) hx hb dX3_fits_1 (by decide) (fun c1_0 => ?_) (fun c1_0 => ?_)
  · skip
    refine lv_iload_n hx hb dX3_fits_6 rfl (lv_at hl 1 rfl) ?_
    refine lv_iconst (v := (-1)) hx hb dX3_fits_7 (by decide) ?_
    refine lv_icmp_eq (tgt := 15) hx hb dX3_fits_8 (by decide) (fun c8_1 => ?_) (fun c8_1 => ?_)
    · skip
      have ho0 := (o2i_none (fun a h => by have := ho a h; omega)).mp c8_1
      subst ho0
      refine lv_iconst (v := 0) hx hb dX3_fits_15 (by decide) ?_
      exact W.zret hx hb hr rfl (fun t ht hW => ⟨_, rfl, by show _ = b2i _; rw [fitO_no c1_0]; rfl, ht⟩) (fun q h => nomatch h) dX3_fits_16
    · skip
      obtain ⟨k, rfl, hk⟩ := o2i_nn (N := c0) (by omega) ho c8_1
      have hl : lv_has ls 6 [(0, .ref (A 0)), (1, .int (nI k)), (2, .int b), (3, .int (dpt 0))] := hl
      obtain ⟨hT0, hT1, hT2, hT3, hT4, hT5⟩ := hT.2 k hk
      refine lv_iload_n hx hb dX3_fits_11 rfl (lv_at hl 3 rfl) ?_
      refine lv_if_ge (tgt := 17) hx hb dX3_fits_12 (by decide) (fun c12_2 => ?_) (fun c12_2 => ?_)
      · exact absurd c12_2 (by decide)
      · skip
        refine lv_iconst (v := 0) hx hb dX3_fits_15 (by decide) ?_
        exact W.zret hx hb hr rfl (fun t ht hW => ⟨_, rfl, by show _ = b2i _; rw [fitO_z c1_0]; rfl, ht⟩) (fun q h => nomatch h) dX3_fits_16
  · skip
    refine lv_iconst (v := 1) hx hb dX3_fits_4 (by decide) ?_
    exact W.zret hx hb hr rfl (fun t ht hW => ⟨_, rfl, by show _ = b2i _; rw [fitO_b0 c1_0]; rfl, ht⟩) (fun q h => nomatch h) dX3_fits_5
set_option maxHeartbeats 4000000 in
set_option maxRecDepth 100000 in
/-- fits(i, belief, deep) out of fits(.., deep - 1) -/
theorem c_X3_fits_of (l : Launch) (dC : Nat → ClassId) (dI : Nat → Nat → Nat) (A : Nat → Nat) (cI cQ : ClassId) (σ : HS) {c0 : Nat} {ta tp tq : Nat → Option Nat} (hT : tOK (tcS σ) c0 ta tp tq) (f : Nat) (hf : f < 2 ^ 20) (h : ∀ o : Option Nat, (∀ k, o = some k → k < c0) → ∀ b : Int32, Met l yX3_fits wsX3_fits { frames := f + 3, cells := 0, slots := 0, locals := 25 * f + 60 } (va_Pc [.ref (A 0), .int (o2i o), .int b, .int (dpt f)] (hfP dC dI A cI cQ σ)) (vp_Si (fun r => r = b2i (fitO (usS σ) (ptS σ) (reS σ) ta tp tq f o b))) 0 0 (fun _ => False)) (o : Option Nat) (ho : ∀ k, o = some k → k < c0) (b : Int32) : Met l yX3_fits wsX3_fits { frames := (f + 1) + 3, cells := 0, slots := 0, locals := 25 * (f + 1) + 60 } (va_Pc [.ref (A 0), .int (o2i o), .int b, .int (dpt (f + 1))] (hfP dC dI A cI cQ σ)) (vp_Si (fun r => r = b2i (fitO (usS σ) (ptS σ) (reS σ) ta tp tq (f + 1) o b))) 0 0 (fun _ => False) := by
  have hc31 := hT.1
  refine Met.ofW (cc := cX3_fits) (maxL := 6) (ret := (some .boolean)) (by decide) rfl ?_
  intro p e s m args below meth c s₁ B hml hv
  obtain ⟨rfl, hP, hX⟩ := hv
  have hx := B.exec
  have hb := B.bytes
  have hr := B.returns
  have hts := atoms_spec (ws := wsX3_fits) B.pre
  have hown : s.vm.findClass RX3 = some m.cls := findClass_of_methodNamed B.named
  have hlocks := B.notSynchronized
  have hK := hX.1
  have hinX3 : ∀ w ∈ wsX30, w ∈ wsX3_fits := fun _ h => List.mem_cons_of_mem _ (List.mem_append_left _ (List.mem_append_left _ (List.mem_append_right _ h)))
  have hinX0 : ∀ w ∈ wsX00, w ∈ wsX3_fits := fun _ h => List.mem_cons_of_mem _ (List.mem_append_right _ h)
  have hinX2 : ∀ w ∈ wsX20, w ∈ wsX3_fits := fun _ h => List.mem_cons_of_mem _ (List.mem_append_left _ (List.mem_append_right _ h))
  have hl := lv_entry ([.ref (A 0), .int (o2i o), .int b, .int (dpt (f + 1))]) (n := 6) (Nat.le_of_ble_eq_true rfl)
  rw [lg_entry_eq]
  generalize (lg_sl ([.ref (A 0), .int (o2i o), .int b, .int (dpt (f + 1))]) ++ List.replicate (6 - (lg_sl ([.ref (A 0), .int (o2i o), .int b, .int (dpt (f + 1))])).length) Slot.unset).toArray = ls at hl ⊢
  have hl : lv_has ls 6 [(0, .ref (A 0)), (1, .int (o2i o)), (2, .int b), (3, .int (dpt (f + 1)))] := hl
  refine lv_iload_n hx hb dX3_fits_0 rfl (lv_at hl 2 rfl) ?_
  refine lv_if_ne (tgt := 6) hx hb dX3_fits_1 (by decide) (fun c1_0 => ?_) (fun c1_0 => ?_)
  · skip
    refine lv_iload_n hx hb dX3_fits_6 rfl (lv_at hl 1 rfl) ?_
    refine lv_iconst (v := (-1)) hx hb dX3_fits_7 (by decide) ?_
    refine lv_icmp_eq (tgt := 15) hx hb dX3_fits_8 (by decide) (fun c8_1 => ?_) (fun c8_1 => ?_)
    · skip
      have ho0 := (o2i_none (fun a h => by have := ho a h; omega)).mp c8_1
      subst ho0
      refine lv_iconst (v := 0) hx hb dX3_fits_15 (by decide) ?_
      exact W.zret hx hb hr rfl (fun t ht hW => ⟨_, rfl, by show _ = b2i _; rw [fitO_no c1_0]; rfl, ht⟩) (fun q h => nomatch h) dX3_fits_16
    · skip
      obtain ⟨k, rfl, hk⟩ := o2i_nn (N := c0) (by omega) ho c8_1
      have hl : lv_has ls 6 [(0, .ref (A 0)), (1, .int (nI k)), (2, .int b), (3, .int (dpt (f + 1)))] := hl
      obtain ⟨hT0, hT1, hT2, hT3, hT4, hT5⟩ := hT.2 k hk
      refine lv_iload_n hx hb dX3_fits_11 rfl (lv_at hl 3 rfl) ?_
      refine lv_if_ge (tgt := 17) hx hb dX3_fits_12 (by decide) (fun c12_2 => ?_) (fun c12_2 => ?_)
      · skip
        refine lv_aload_n hx hb dX3_fits_17 rfl (lv_at hl 0 rfl) ?_
        refine va_get (D := (dC, dI)) (ci := 3) (v := .ref (A 2)) (C := RX3) (T := TX3) (N := 9) hx hb hts hinX3 hown hK hP 0 rfl rfl 1 (by decide) (hts _ (List.mem_of_getElem? (i := 1) rfl)) (fun _ h9 => h9) rfl dX3_fits_18 ?_
        refine lv_iload_n hx hb dX3_fits_21 rfl (lv_at hl 1 rfl) ?_
        refine lv_iconst (v := 0) hx hb dX3_fits_22 (by decide) ?_
        refine vp_callSi (W.runV (As := [.int (nI k), .int (nI 0)]) (rest := []) ⟨hx, hb, hml, hown, hts⟩ (c_X2_cell l dC dI A cI cQ σ (i := k) (j := 0) (by omega)) (cwV 2 hts gX3_fits_X2_cell rfl rfl rfl (by decide +kernel) ⟨show 0 + 1 ≤ (f + 1) + 3 by omega, show 8 + (3 + 11) + (0) ≤ 25 * (f + 1) + 60 by omega⟩) ⟨bl_P, va_recv hK hP (ci := 2) (q0 := 2) rfl rfl, fun U hU hW => ⟨rfl, by rw [hU]; exact hP, hX.warm hW⟩⟩ rfl rfl hl.1 rfl (lv_room (Nat.le_of_ble_eq_true rfl)) dX3_fits_23 ⟨Nat.zero_le _, Nat.zero_le _⟩) (fun r er => ?_)
        obtain rfl : r = o2i (ta k) := er.trans hT0
        refine lv_istore (lv' := [(4, .int (o2i (ta k))), (0, .ref (A 0)), (1, .int (nI k)), (2, .int b), (3, .int (dpt (f + 1)))]) hx hb dX3_fits_26 hl (by decide) rfl (fun ls hl => ?_)
        refine lv_iload hx hb dX3_fits_28 (lv_at hl 0 rfl) ?_
        refine lv_iconst (v := (-1)) hx hb dX3_fits_30 (by decide) ?_
        refine lv_icmp_ne (tgt := 40) hx hb dX3_fits_31 (by decide) (fun c31_3 => ?_) (fun c31_3 => ?_)
        · skip
          obtain ⟨a, hta, ha⟩ := o2i_nn (N := 8) (by decide) hT3 c31_3
          have hl : lv_has ls 6 [(4, .int (nI a)), (0, .ref (A 0)), (1, .int (nI k)), (2, .int b), (3, .int (dpt (f + 1)))] := by rw [hta] at hl; exact hl
          refine lv_aload_n hx hb dX3_fits_40 rfl (lv_at hl 1 rfl) ?_
          refine va_get (D := (dC, dI)) (ci := 3) (v := .ref (A 1)) (C := RX3) (T := TX3) (N := 9) hx hb hts hinX3 hown hK hP 0 rfl rfl 0 (by decide) (hts _ (List.mem_of_getElem? (i := 2) rfl)) (fun _ h9 => h9) rfl dX3_fits_41 ?_
          refine lv_iload hx hb dX3_fits_44 (lv_at hl 0 rfl) ?_
          refine va_aldq hx hb hK hP 1 1 rfl rfl (vp_in_nI (show a < 8 by omega) (by decide)) dX3_fits_46 ?_
          rw [nI_clamp (show a < 2 ^ 31 by have := (show a < 8 by omega); omega)]
          refine lv_iload_n hx hb dX3_fits_47 rfl (lv_at hl 3 rfl) ?_
          refine vp_callSi (W.runV (As := [.int b]) (rest := []) ⟨hx, hb, hml, hown, hts⟩ (c_X0_usable l dC dI A cI cQ σ ha b) (cwV 1 hts gX3_fits_X0_usable rfl rfl rfl (by decide +kernel) ⟨show 0 + 1 ≤ (f + 1) + 3 by omega, show 8 + (2 + 11) + (0) ≤ 25 * (f + 1) + 60 by omega⟩) ⟨bl_P, va_recv hK hP (ci := 0) (q0 := (8 + a)) rfl (hf_act ha), fun U hU hW => ⟨rfl, by rw [hU]; exact hP, hX.warm hW⟩⟩ rfl rfl hl.1 rfl (lv_room (Nat.le_of_ble_eq_true rfl)) dX3_fits_48 ⟨Nat.zero_le _, Nat.zero_le _⟩) (fun r er => ?_)
          obtain rfl : r = b2i (usS σ a b) := er
          refine lv_if_ne (tgt := 56) hx hb dX3_fits_51 (by decide) (fun c51_4 => ?_) (fun c51_4 => ?_)
          · skip
            refine lv_aload_n hx hb dX3_fits_56 rfl (lv_at hl 1 rfl) ?_
            refine va_get (D := (dC, dI)) (ci := 3) (v := .ref (A 1)) (C := RX3) (T := TX3) (N := 9) hx hb hts hinX3 hown hK hP 0 rfl rfl 0 (by decide) (hts _ (List.mem_of_getElem? (i := 2) rfl)) (fun _ h9 => h9) rfl dX3_fits_57 ?_
            refine lv_iload hx hb dX3_fits_60 (lv_at hl 0 rfl) ?_
            refine va_aldq hx hb hK hP 1 1 rfl rfl (vp_in_nI (show a < 8 by omega) (by decide)) dX3_fits_62 ?_
            rw [nI_clamp (show a < 2 ^ 31 by have := (show a < 8 by omega); omega)]
            refine lv_iload_n hx hb dX3_fits_63 rfl (lv_at hl 3 rfl) ?_
            refine vp_callSi (W.runV (As := [.int b]) (rest := []) ⟨hx, hb, hml, hown, hts⟩ (c_X0_after l dC dI A cI cQ σ ha b) (cwV 1 hts gX3_fits_X0_after rfl rfl rfl (by decide +kernel) ⟨show 1 + 1 ≤ (f + 1) + 3 by omega, show 8 + (4 + 11) + (21) ≤ 25 * (f + 1) + 60 by omega⟩) ⟨bl_P, va_recv hK hP (ci := 0) (q0 := (8 + a)) rfl (hf_act ha), fun U hU hW => ⟨rfl, by rw [hU]; exact hP, hX.warm hW⟩⟩ rfl rfl hl.1 rfl (lv_room (Nat.le_of_ble_eq_true rfl)) dX3_fits_64 ⟨Nat.zero_le _, Nat.zero_le _⟩) (fun r er => ?_)
            obtain rfl : r = afS σ a b := er
            refine lv_istore (lv' := [(5, .int (afS σ a b)), (4, .int (nI a)), (0, .ref (A 0)), (1, .int (nI k)), (2, .int b), (3, .int (dpt (f + 1)))]) hx hb dX3_fits_67 hl (by decide) rfl (fun ls hl => ?_)
            refine lv_aload_n hx hb dX3_fits_69 rfl (lv_at hl 2 rfl) ?_
            refine lv_aload_n hx hb dX3_fits_70 rfl (lv_at hl 2 rfl) ?_
            refine va_get (D := (dC, dI)) (ci := 3) (v := .ref (A 2)) (C := RX3) (T := TX3) (N := 9) hx hb hts hinX3 hown hK hP 0 rfl rfl 1 (by decide) (hts _ (List.mem_of_getElem? (i := 1) rfl)) (fun _ h9 => h9) rfl dX3_fits_71 ?_
            refine lv_iload_n hx hb dX3_fits_74 rfl (lv_at hl 3 rfl) ?_
            refine lv_iconst (v := 1) hx hb dX3_fits_75 (by decide) ?_
            refine vp_callSi (W.runV (As := [.int (nI k), .int (nI 1)]) (rest := [.ref (A 0)]) ⟨hx, hb, hml, hown, hts⟩ (c_X2_cell l dC dI A cI cQ σ (i := k) (j := 1) (by omega)) (cwV 2 hts gX3_fits_X2_cell rfl rfl rfl (by decide +kernel) ⟨show 0 + 1 ≤ (f + 1) + 3 by omega, show 8 + (3 + 11) + (0) ≤ 25 * (f + 1) + 60 by omega⟩) ⟨bl_P, va_recv hK hP (ci := 2) (q0 := 2) rfl rfl, fun U hU hW => ⟨rfl, by rw [hU]; exact hP, hX.warm hW⟩⟩ rfl rfl hl.1 rfl (lv_room (Nat.le_of_ble_eq_true rfl)) dX3_fits_76 ⟨Nat.zero_le _, Nat.zero_le _⟩) (fun r er => ?_)
            obtain rfl : r = o2i (tp k) := er.trans hT1
            refine lv_aload_n hx hb dX3_fits_79 rfl (lv_at hl 2 rfl) ?_
            refine va_get (D := (dC, dI)) (ci := 3) (v := .ref (A 1)) (C := RX3) (T := TX3) (N := 9) hx hb hts hinX3 hown hK hP 0 rfl rfl 0 (by decide) (hts _ (List.mem_of_getElem? (i := 2) rfl)) (fun _ h9 => h9) rfl dX3_fits_80 ?_
            refine lv_iload hx hb dX3_fits_83 (lv_at hl 1 rfl) ?_
            refine va_aldq hx hb hK hP 1 1 rfl rfl (vp_in_nI (show a < 8 by omega) (by decide)) dX3_fits_85 ?_
            rw [nI_clamp (show a < 2 ^ 31 by have := (show a < 8 by omega); omega)]
            refine lv_iload hx hb dX3_fits_86 (lv_at hl 0 rfl) ?_
            refine lv_iconst (v := 0) hx hb dX3_fits_88 (by decide) ?_
            refine vp_callSi (W.runV (As := [.int (afS σ a b), .int 0]) (rest := [.int (o2i (tp k)), .ref (A 0)]) ⟨hx, hb, hml, hown, hts⟩ (c_X0_part l dC dI A cI cQ σ ha (afS σ a b) 0) (cwV 2 hts gX3_fits_X0_part rfl rfl rfl (by decide +kernel) ⟨show 0 + 1 ≤ (f + 1) + 3 by omega, show 8 + (3 + 11) + (0) ≤ 25 * (f + 1) + 60 by omega⟩) ⟨bl_P, va_recv hK hP (ci := 0) (q0 := (8 + a)) rfl (hf_act ha), fun U hU hW => ⟨rfl, by rw [hU]; exact hP, hX.warm hW⟩⟩ rfl rfl hl.1 rfl (lv_room (Nat.le_of_ble_eq_true rfl)) dX3_fits_89 ⟨Nat.zero_le _, Nat.zero_le _⟩) (fun r er => ?_)
            obtain rfl : r = ptS σ a b 0 := er
            refine lv_iload_n hx hb dX3_fits_92 rfl (lv_at hl 5 rfl) ?_
            refine lv_iconst (v := 1) hx hb dX3_fits_93 (by decide) ?_
            refine lv_isub hx hb dX3_fits_94 ?_
            refine lv_topi (fun y5 ey5 => ?_)
            obtain rfl : y5 = dpt f := ey5.trans (dpt_s f)
            refine vp_callSi (W.runV (As := [.int (o2i (tp k)), .int (ptS σ a b 0), .int (dpt f)]) (rest := []) ⟨hx, hb, hml, hown, hts⟩ (h (tp k) hT4 (ptS σ a b 0)) (cwV 3 hts gX3_fits_X3_fits rfl rfl rfl (by decide +kernel) ⟨show f + 3 + 1 ≤ f + 1 + 3 by omega, show 8 + (6 + 11) + (25 * f + 60) ≤ 25 * (f + 1) + 60 by omega⟩) ⟨bl_P, va_recv hK hP (ci := 3) (q0 := 0) rfl rfl, fun U hU hW => ⟨rfl, by rw [hU]; exact hP, hX.warm hW⟩⟩ rfl rfl hl.1 rfl (lv_room (Nat.le_of_ble_eq_true rfl)) dX3_fits_95 ⟨Nat.zero_le _, Nat.zero_le _⟩) (fun r er => ?_)
            obtain rfl : r = b2i (fitO (usS σ) (ptS σ) (reS σ) ta tp tq f (tp k) (ptS σ a b 0)) := er
            refine lv_if_eq (tgt := 137) hx hb dX3_fits_98 (by decide) (fun c98_6 => ?_) (fun c98_6 => ?_)
            · skip
              refine lv_iconst (v := 0) hx hb dX3_fits_137 (by decide) ?_
              exact W.zret hx hb hr rfl (fun t ht hW => ⟨_, rfl, by show _ = b2i _; rw [fitO_node c1_0 hta, b2i_n0.mp c51_4, b2i_0.mp c98_6]; rfl, ht⟩) (fun q h => nomatch h) dX3_fits_138
            · skip
              refine lv_aload_n hx hb dX3_fits_101 rfl (lv_at hl 2 rfl) ?_
              refine lv_aload_n hx hb dX3_fits_102 rfl (lv_at hl 2 rfl) ?_
              refine va_get (D := (dC, dI)) (ci := 3) (v := .ref (A 2)) (C := RX3) (T := TX3) (N := 9) hx hb hts hinX3 hown hK hP 0 rfl rfl 1 (by decide) (hts _ (List.mem_of_getElem? (i := 1) rfl)) (fun _ h9 => h9) rfl dX3_fits_103 ?_
              refine lv_iload_n hx hb dX3_fits_106 rfl (lv_at hl 3 rfl) ?_
              refine lv_iconst (v := 2) hx hb dX3_fits_107 (by decide) ?_
              refine vp_callSi (W.runV (As := [.int (nI k), .int (nI 2)]) (rest := [.ref (A 0)]) ⟨hx, hb, hml, hown, hts⟩ (c_X2_cell l dC dI A cI cQ σ (i := k) (j := 2) (by omega)) (cwV 2 hts gX3_fits_X2_cell rfl rfl rfl (by decide +kernel) ⟨show 0 + 1 ≤ (f + 1) + 3 by omega, show 8 + (3 + 11) + (0) ≤ 25 * (f + 1) + 60 by omega⟩) ⟨bl_P, va_recv hK hP (ci := 2) (q0 := 2) rfl rfl, fun U hU hW => ⟨rfl, by rw [hU]; exact hP, hX.warm hW⟩⟩ rfl rfl hl.1 rfl (lv_room (Nat.le_of_ble_eq_true rfl)) dX3_fits_108 ⟨Nat.zero_le _, Nat.zero_le _⟩) (fun r er => ?_)
              obtain rfl : r = o2i (tq k) := er.trans hT2
              refine lv_aload_n hx hb dX3_fits_111 rfl (lv_at hl 2 rfl) ?_
              refine va_get (D := (dC, dI)) (ci := 3) (v := .ref (A 1)) (C := RX3) (T := TX3) (N := 9) hx hb hts hinX3 hown hK hP 0 rfl rfl 0 (by decide) (hts _ (List.mem_of_getElem? (i := 2) rfl)) (fun _ h9 => h9) rfl dX3_fits_112 ?_
              refine lv_iload hx hb dX3_fits_115 (lv_at hl 1 rfl) ?_
              refine va_aldq hx hb hK hP 1 1 rfl rfl (vp_in_nI (show a < 8 by omega) (by decide)) dX3_fits_117 ?_
              rw [nI_clamp (show a < 2 ^ 31 by have := (show a < 8 by omega); omega)]
              refine lv_iload hx hb dX3_fits_118 (lv_at hl 0 rfl) ?_
              refine lv_iconst (v := 1) hx hb dX3_fits_120 (by decide) ?_
              refine vp_callSi (W.runV (As := [.int (afS σ a b), .int 1]) (rest := [.int (o2i (tq k)), .ref (A 0)]) ⟨hx, hb, hml, hown, hts⟩ (c_X0_part l dC dI A cI cQ σ ha (afS σ a b) 1) (cwV 2 hts gX3_fits_X0_part rfl rfl rfl (by decide +kernel) ⟨show 0 + 1 ≤ (f + 1) + 3 by omega, show 8 + (3 + 11) + (0) ≤ 25 * (f + 1) + 60 by omega⟩) ⟨bl_P, va_recv hK hP (ci := 0) (q0 := (8 + a)) rfl (hf_act ha), fun U hU hW => ⟨rfl, by rw [hU]; exact hP, hX.warm hW⟩⟩ rfl rfl hl.1 rfl (lv_room (Nat.le_of_ble_eq_true rfl)) dX3_fits_121 ⟨Nat.zero_le _, Nat.zero_le _⟩) (fun r er => ?_)
              obtain rfl : r = ptS σ a b 1 := er
              refine lv_iload_n hx hb dX3_fits_124 rfl (lv_at hl 5 rfl) ?_
              refine lv_iconst (v := 1) hx hb dX3_fits_125 (by decide) ?_
              refine lv_isub hx hb dX3_fits_126 ?_
              refine lv_topi (fun y7 ey7 => ?_)
              obtain rfl : y7 = dpt f := ey7.trans (dpt_s f)
              refine vp_callSi (W.runV (As := [.int (o2i (tq k)), .int (ptS σ a b 1), .int (dpt f)]) (rest := []) ⟨hx, hb, hml, hown, hts⟩ (h (tq k) hT5 (ptS σ a b 1)) (cwV 3 hts gX3_fits_X3_fits rfl rfl rfl (by decide +kernel) ⟨show f + 3 + 1 ≤ f + 1 + 3 by omega, show 8 + (6 + 11) + (25 * f + 60) ≤ 25 * (f + 1) + 60 by omega⟩) ⟨bl_P, va_recv hK hP (ci := 3) (q0 := 0) rfl rfl, fun U hU hW => ⟨rfl, by rw [hU]; exact hP, hX.warm hW⟩⟩ rfl rfl hl.1 rfl (lv_room (Nat.le_of_ble_eq_true rfl)) dX3_fits_127 ⟨Nat.zero_le _, Nat.zero_le _⟩) (fun r er => ?_)
              obtain rfl : r = b2i (fitO (usS σ) (ptS σ) (reS σ) ta tp tq f (tq k) (ptS σ a b 1)) := er
              refine lv_if_eq (tgt := 137) hx hb dX3_fits_130 (by decide) (fun c130_8 => ?_) (fun c130_8 => ?_)
              · skip
                refine lv_iconst (v := 0) hx hb dX3_fits_137 (by decide) ?_
                exact W.zret hx hb hr rfl (fun t ht hW => ⟨_, rfl, by show _ = b2i _; rw [fitO_node c1_0 hta, b2i_n0.mp c51_4, b2i_n0.mp c98_6, b2i_0.mp c130_8]; rfl, ht⟩) (fun q h => nomatch h) dX3_fits_138
              · skip
                refine lv_iconst (v := 1) hx hb dX3_fits_133 (by decide) ?_
                refine lv_goto (tgt := 138) hx hb dX3_fits_134 (by decide) ?_
                exact W.zret hx hb hr rfl (fun t ht hW => ⟨_, rfl, by show _ = b2i _; rw [fitO_node c1_0 hta, b2i_n0.mp c51_4, b2i_n0.mp c98_6, b2i_n0.mp c130_8]; rfl, ht⟩) (fun q h => nomatch h) dX3_fits_138
          · skip
            refine lv_iconst (v := 0) hx hb dX3_fits_54 (by decide) ?_
            exact W.zret hx hb hr rfl (fun t ht hW => ⟨_, rfl, by show _ = b2i _; rw [fitO_node c1_0 hta, b2i_0.mp c51_4]; rfl, ht⟩) (fun q h => nomatch h) dX3_fits_55
        · skip
          have hta := (o2i_none (fun a h => by have := hT3 a h; omega)).mp c31_3
          refine lv_aload_n hx hb dX3_fits_34 rfl (lv_at hl 1 rfl) ?_
          refine lv_iload_n hx hb dX3_fits_35 rfl (lv_at hl 3 rfl) ?_
          refine vp_callSi (W.runV (As := [.int b]) (rest := []) ⟨hx, hb, hml, hown, hts⟩ (c_X3_reached l dC dI A cI cQ σ b) (cwV 1 hts gX3_fits_X3_reached rfl rfl rfl (by decide +kernel) ⟨show 0 + 1 ≤ (f + 1) + 3 by omega, show 8 + (2 + 11) + (0) ≤ 25 * (f + 1) + 60 by omega⟩) ⟨bl_P, va_recv hK hP (ci := 3) (q0 := 0) rfl rfl, fun U hU hW => ⟨rfl, by rw [hU]; exact hP, hX.warm hW⟩⟩ rfl rfl hl.1 rfl (lv_room (Nat.le_of_ble_eq_true rfl)) dX3_fits_36 ⟨Nat.zero_le _, Nat.zero_le _⟩) (fun r er => ?_)
          obtain rfl : r = b2i (reS σ b) := er
          exact W.zret hx hb hr (b2i_nar _) (fun t ht hW => ⟨_, rfl, by show _ = b2i _; rw [fitO_leaf c1_0 hta], ht⟩) (fun q h => nomatch h) dX3_fits_39
      · exact absurd (nI_pos' (n := f) (by omega)) c12_2
  · skip
    refine lv_iconst (v := 1) hx hb dX3_fits_4 (by decide) ?_
    exact W.zret hx hb hr rfl (fun t ht hW => ⟨_, rfl, by show _ = b2i _; rw [fitO_b0 c1_0]; rfl, ht⟩) (fun q h => nomatch h) dX3_fits_5
theorem c_X3_fits (l : Launch) (dC : Nat → ClassId) (dI : Nat → Nat → Nat) (A : Nat → Nat) (cI cQ : ClassId) (σ : HS) {c0 : Nat} {ta tp tq : Nat → Option Nat} (hT : tOK (tcS σ) c0 ta tp tq) : ∀ f : Nat, f < 2 ^ 20 → ∀ o : Option Nat, (∀ k, o = some k → k < c0) → ∀ b : Int32, Met l yX3_fits wsX3_fits { frames := f + 3, cells := 0, slots := 0, locals := 25 * f + 60 } (va_Pc [.ref (A 0), .int (o2i o), .int b, .int (dpt f)] (hfP dC dI A cI cQ σ)) (vp_Si (fun r => r = b2i (fitO (usS σ) (ptS σ) (reS σ) ta tp tq f o b))) 0 0 (fun _ => False) := by
  intro f
  induction f with
  | zero => intro _; exact c_X3_fits0 l dC dI A cI cQ σ hT
  | succ f ih => intro hf; exact c_X3_fits_of l dC dI A cI cQ σ hT f (by omega) (ih (by omega))
