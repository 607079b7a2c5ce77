def clR (ar : Nat → Nat → Int32) (k : Nat) : Int32 := if ar 22 k = 0 then 0 else ar 24 k
def eqR (ar : Nat → Nat → Int32) (i j : Nat) : Bool := if ar 22 i = 0 ∨ ar 22 j = 0 then decide (ar 22 i = ar 22 j) else if ar 23 i = ar 23 j then (decide (ar 23 i < 0) || (decide (clR ar (2 * i) = clR ar (2 * j)) && decide (clR ar (2 * i + 1) = clR ar (2 * j + 1)))) else false
set_option maxHeartbeats 4000000 in
set_option maxRecDepth 100000 in
/-- classOf -/
theorem m_classOf (l : Launch) (dC : Nat → ClassId) (dI : Nat → Nat → Nat) (AB : Nat → Nat) (cI cZ : ClassId) (τ : MS) {k : Nat} (hk : k < 64) : Met l yX4_classOf wsX4_classOf ({ frames := 0, cells := 0, slots := 0, locals := 0 }) (va_Pc [.ref (AB 0), .int (nI k)] (mP dC dI AB cI cZ τ)) (vp_Si (fun r => r = clR τ.2 k)) 0 0 (fun _ => False) := by
  refine Met.ofW (cc := cX4_classOf) (maxL := 2) (ret := (some .int)) (by decide) rfl ?_
  intro p e s m args below meth c s₁ B hml hv
  obtain ⟨rfl, hP, hK⟩ := hv
  have hx := B.exec
  have hb := B.bytes
  have hr := B.returns
  have hts := atoms_spec (ws := wsX4_classOf) B.pre
  have hown : s.vm.findClass RX4 = some m.cls := findClass_of_methodNamed B.named
  have hlocks := B.notSynchronized
  have hinX4 : ∀ w ∈ wsX40, w ∈ wsX4_classOf := fun _ h => List.mem_cons_of_mem _ (List.mem_append_right _ h)
  have hl := lv_entry ([.ref (AB 0), .int (nI k)]) (n := 2) (Nat.le_of_ble_eq_true rfl)
  rw [lg_entry_eq]
  generalize (lg_sl ([.ref (AB 0), .int (nI k)]) ++ List.replicate (2 - (lg_sl ([.ref (AB 0), .int (nI k)])).length) Slot.unset).toArray = ls at hl ⊢
  have hl : lv_has ls 2 [(0, .ref (AB 0)), (1, .int (nI k))] := hl
  refine lv_aload_n hx hb dX4_classOf_0 rfl (lv_at hl 0 rfl) ?_
  refine va_get (D := (dC, dI)) (ci := 4) (v := .ref (AB 22)) (C := RX4) (T := TX4) (N := 33) hx hb hts hinX4 hown hK hP 0 rfl rfl 22 (by decide) (hts _ (List.mem_of_getElem? (i := 1) rfl)) (fun _ h9 => h9) rfl dX4_classOf_1 ?_
  refine lv_iload_n hx hb dX4_classOf_4 rfl (lv_at hl 1 rfl) ?_
  refine va_iald hx hb hK hP 18 0 rfl rfl (vp_in_nI (show k < 64 by omega) (by decide)) dX4_classOf_5 ?_
  rw [nI_clamp (show k < 2 ^ 31 by have := (show k < 64 by omega); omega)]
  refine lv_if_ne (tgt := 13) hx hb dX4_classOf_6 (by decide) (fun c6_0 => ?_) (fun c6_0 => ?_)
  · skip
    refine lv_aload_n hx hb dX4_classOf_13 rfl (lv_at hl 0 rfl) ?_
    refine va_get (D := (dC, dI)) (ci := 4) (v := .ref (AB 24)) (C := RX4) (T := TX4) (N := 33) hx hb hts hinX4 hown hK hP 0 rfl rfl 24 (by decide) (hts _ (List.mem_of_getElem? (i := 2) rfl)) (fun _ h9 => h9) rfl dX4_classOf_14 ?_
    refine lv_iload_n hx hb dX4_classOf_17 rfl (lv_at hl 1 rfl) ?_
    refine va_iald hx hb hK hP 20 0 rfl rfl (vp_in_nI (show k < 64 by omega) (by decide)) dX4_classOf_18 ?_
    rw [nI_clamp (show k < 2 ^ 31 by have := (show k < 64 by omega); omega)]
    exact W.iret hx hb hr (fun t ht hW => ⟨_, rfl, by show _ = clR τ.2 k; unfold clR; rw [if_neg c6_0], ht⟩) (fun q h => nomatch h) dX4_classOf_19
  · skip
    refine lv_iconst (v := 0) hx hb dX4_classOf_9 (by decide) ?_
    refine lv_goto (tgt := 19) hx hb dX4_classOf_10 (by decide) ?_
    exact W.iret hx hb hr (fun t ht hW => ⟨_, rfl, by show _ = clR τ.2 k; unfold clR; rw [if_pos c6_0], ht⟩) (fun q h => nomatch h) dX4_classOf_19
set_option maxHeartbeats 4000000 in
set_option maxRecDepth 100000 in
/-- equal -/
theorem m_equal (l : Launch) (dC : Nat → ClassId) (dI : Nat → Nat → Nat) (AB : Nat → Nat) (cI cZ : ClassId) (τ : MS) {i j : Nat} (hi : i < 32) (hj : j < 32) : Met l yX4_equal wsX4_equal ({ frames := 1, cells := 0, slots := 0, locals := 30 }) (va_Pc [.ref (AB 0), .int (nI i), .int (nI j)] (mP dC dI AB cI cZ τ)) (vp_Si (fun r => r = b2i (eqR τ.2 i j))) 0 0 (fun _ => False) := by
  refine Met.ofW (cc := cX4_equal) (maxL := 3) (ret := (some .boolean)) (by decide) rfl ?_
  intro p e s m args below meth c s₁ B hml hv
  obtain ⟨rfl, hP, hK⟩ := hv
  have hx := B.exec
  have hb := B.bytes
  have hr := B.returns
  have hts := atoms_spec (ws := wsX4_equal) B.pre
  have hown : s.vm.findClass RX4 = some m.cls := findClass_of_methodNamed B.named
  have hlocks := B.notSynchronized
  have hinX4 : ∀ w ∈ wsX40, w ∈ wsX4_equal := fun _ h => List.mem_cons_of_mem _ (List.mem_append_right _ h)
  have hl := lv_entry ([.ref (AB 0), .int (nI i), .int (nI j)]) (n := 3) (Nat.le_of_ble_eq_true rfl)
  rw [lg_entry_eq]
  generalize (lg_sl ([.ref (AB 0), .int (nI i), .int (nI j)]) ++ List.replicate (3 - (lg_sl ([.ref (AB 0), .int (nI i), .int (nI j)])).length) Slot.unset).toArray = ls at hl ⊢
  have hl : lv_has ls 3 [(0, .ref (AB 0)), (1, .int (nI i)), (2, .int (nI j))] := hl
  refine lv_aload_n hx hb dX4_equal_0 rfl (lv_at hl 0 rfl) ?_
  refine va_get (D := (dC, dI)) (ci := 4) (v := .ref (AB 22)) (C := RX4) (T := TX4) (N := 33) hx hb hts hinX4 hown hK hP 0 rfl rfl 22 (by decide) (hts _ (List.mem_of_getElem? (i := 1) rfl)) (fun _ h9 => h9) rfl dX4_equal_1 ?_
  refine lv_iload_n hx hb dX4_equal_4 rfl (lv_at hl 1 rfl) ?_
  refine va_iald hx hb hK hP 18 0 rfl rfl (vp_in_nI (show i < 64 by omega) (by decide)) dX4_equal_5 ?_
  rw [nI_clamp (show i < 2 ^ 31 by have := (show i < 64 by omega); omega)]
  refine lv_if_eq (tgt := 18) hx hb dX4_equal_6 (by decide) (fun c6_0 => ?_) (fun c6_0 => ?_)
  · skip
    refine lv_aload_n hx hb dX4_equal_18 rfl (lv_at hl 0 rfl) ?_
    refine va_get (D := (dC, dI)) (ci := 4) (v := .ref (AB 22)) (C := RX4) (T := TX4) (N := 33) hx hb hts hinX4 hown hK hP 0 rfl rfl 22 (by decide) (hts _ (List.mem_of_getElem? (i := 1) rfl)) (fun _ h9 => h9) rfl dX4_equal_19 ?_
    refine lv_iload_n hx hb dX4_equal_22 rfl (lv_at hl 1 rfl) ?_
    refine va_iald hx hb hK hP 18 0 rfl rfl (vp_in_nI (show i < 64 by omega) (by decide)) dX4_equal_23 ?_
    rw [nI_clamp (show i < 2 ^ 31 by have := (show i < 64 by omega); omega)]
    refine lv_aload_n hx hb dX4_equal_24 rfl (lv_at hl 0 rfl) ?_
    refine va_get (D := (dC, dI)) (ci := 4) (v := .ref (AB 22)) (C := RX4) (T := TX4) (N := 33) hx hb hts hinX4 hown hK hP 0 rfl rfl 22 (by decide) (hts _ (List.mem_of_getElem? (i := 1) rfl)) (fun _ h9 => h9) rfl dX4_equal_25 ?_
    refine lv_iload_n hx hb dX4_equal_28 rfl (lv_at hl 2 rfl) ?_
    refine va_iald hx hb hK hP 18 0 rfl rfl (vp_in_nI (show j < 64 by omega) (by decide)) dX4_equal_29 ?_
    rw [nI_clamp (show j < 2 ^ 31 by have := (show j < 64 by omega); omega)]
    refine lv_icmp_ne (tgt := 37) hx hb dX4_equal_30 (by decide) (fun c30_1 => ?_) (fun c30_1 => ?_)
    · skip
      refine lv_iconst (v := 0) hx hb dX4_equal_37 (by decide) ?_
      exact W.zret hx hb hr rfl (fun t ht hW => ⟨_, rfl, by show _ = b2i (eqR τ.2 i j); unfold eqR; rw [if_pos (Or.inl c6_0), decide_eq_false c30_1]; rfl, ht⟩) (fun q h => nomatch h) dX4_equal_38
    · skip
      refine lv_iconst (v := 1) hx hb dX4_equal_33 (by decide) ?_
      refine lv_goto (tgt := 38) hx hb dX4_equal_34 (by decide) ?_
      exact W.zret hx hb hr rfl (fun t ht hW => ⟨_, rfl, by show _ = b2i (eqR τ.2 i j); unfold eqR; rw [if_pos (Or.inl c6_0), decide_eq_true c30_1]; rfl, ht⟩) (fun q h => nomatch h) dX4_equal_38
  · skip
    refine lv_aload_n hx hb dX4_equal_9 rfl (lv_at hl 0 rfl) ?_
    refine va_get (D := (dC, dI)) (ci := 4) (v := .ref (AB 22)) (C := RX4) (T := TX4) (N := 33) hx hb hts hinX4 hown hK hP 0 rfl rfl 22 (by decide) (hts _ (List.mem_of_getElem? (i := 1) rfl)) (fun _ h9 => h9) rfl dX4_equal_10 ?_
    refine lv_iload_n hx hb dX4_equal_13 rfl (lv_at hl 2 rfl) ?_
    refine va_iald hx hb hK hP 18 0 rfl rfl (vp_in_nI (show j < 64 by omega) (by decide)) dX4_equal_14 ?_
    rw [nI_clamp (show j < 2 ^ 31 by have := (show j < 64 by omega); omega)]
    refine lv_if_ne (tgt := 39) hx hb dX4_equal_15 (by decide) (fun c15_2 => ?_) (fun c15_2 => ?_)
    · skip
      refine lv_aload_n hx hb dX4_equal_39 rfl (lv_at hl 0 rfl) ?_
      refine va_get (D := (dC, dI)) (ci := 4) (v := .ref (AB 23)) (C := RX4) (T := TX4) (N := 33) hx hb hts hinX4 hown hK hP 0 rfl rfl 23 (by decide) (hts _ (List.mem_of_getElem? (i := 2) rfl)) (fun _ h9 => h9) rfl dX4_equal_40 ?_
      refine lv_iload_n hx hb dX4_equal_43 rfl (lv_at hl 1 rfl) ?_
      refine va_iald hx hb hK hP 19 0 rfl rfl (vp_in_nI (show i < 64 by omega) (by decide)) dX4_equal_44 ?_
      rw [nI_clamp (show i < 2 ^ 31 by have := (show i < 64 by omega); omega)]
      refine lv_aload_n hx hb dX4_equal_45 rfl (lv_at hl 0 rfl) ?_
      refine va_get (D := (dC, dI)) (ci := 4) (v := .ref (AB 23)) (C := RX4) (T := TX4) (N := 33) hx hb hts hinX4 hown hK hP 0 rfl rfl 23 (by decide) (hts _ (List.mem_of_getElem? (i := 2) rfl)) (fun _ h9 => h9) rfl dX4_equal_46 ?_
      refine lv_iload_n hx hb dX4_equal_49 rfl (lv_at hl 2 rfl) ?_
      refine va_iald hx hb hK hP 19 0 rfl rfl (vp_in_nI (show j < 64 by omega) (by decide)) dX4_equal_50 ?_
      rw [nI_clamp (show j < 2 ^ 31 by have := (show j < 64 by omega); omega)]
      refine lv_icmp_eq (tgt := 56) hx hb dX4_equal_51 (by decide) (fun c51_3 => ?_) (fun c51_3 => ?_)
      · skip
        refine lv_aload_n hx hb dX4_equal_56 rfl (lv_at hl 0 rfl) ?_
        refine va_get (D := (dC, dI)) (ci := 4) (v := .ref (AB 23)) (C := RX4) (T := TX4) (N := 33) hx hb hts hinX4 hown hK hP 0 rfl rfl 23 (by decide) (hts _ (List.mem_of_getElem? (i := 2) rfl)) (fun _ h9 => h9) rfl dX4_equal_57 ?_
        refine lv_iload_n hx hb dX4_equal_60 rfl (lv_at hl 1 rfl) ?_
        refine va_iald hx hb hK hP 19 0 rfl rfl (vp_in_nI (show i < 64 by omega) (by decide)) dX4_equal_61 ?_
        rw [nI_clamp (show i < 2 ^ 31 by have := (show i < 64 by omega); omega)]
        refine lv_if_lt (tgt := 103) hx hb dX4_equal_62 (by decide) (fun c62_4 => ?_) (fun c62_4 => ?_)
        · skip
          refine lv_iconst (v := 1) hx hb dX4_equal_103 (by decide) ?_
          refine lv_goto (tgt := 108) hx hb dX4_equal_104 (by decide) ?_
          exact W.zret hx hb hr rfl (fun t ht hW => ⟨_, rfl, by show _ = b2i (eqR τ.2 i j); unfold eqR; rw [if_neg (by rintro (z9 | z9); exact c6_0 z9; exact c15_2 z9), if_pos c51_3, decide_eq_true c62_4]; rfl, ht⟩) (fun q h => nomatch h) dX4_equal_108
        · skip
          refine lv_aload_n hx hb dX4_equal_65 rfl (lv_at hl 0 rfl) ?_
          refine lv_iconst (v := 2) hx hb dX4_equal_66 (by decide) ?_
          refine lv_iload_n hx hb dX4_equal_67 rfl (lv_at hl 1 rfl) ?_
          refine lv_imul hx hb dX4_equal_68 ?_
          refine lv_topi (fun y5 ey5 => ?_)
          obtain rfl : y5 = nI (2 * i) := ey5.trans (pk_mul 2 i)
          refine vp_callSi (W.runV (As := [.int (nI (2 * i))]) (rest := []) ⟨hx, hb, hml, hown, hts⟩ (m_classOf l dC dI AB cI cZ τ (k := 2 * i) (by omega)) (cwV 1 hts gX4_equal_X4_classOf rfl rfl rfl (by decide +kernel) ⟨Nat.le_of_ble_eq_true rfl, Nat.le_of_ble_eq_true rfl⟩) ⟨bm_P, va_recv hK hP (ci := 4) (q0 := 0) rfl rfl, fun U hU hW => ⟨rfl, by rw [hU]; exact hP, va_K.moved hW.alike hK⟩⟩ rfl rfl hl.1 rfl (lv_room (Nat.le_of_ble_eq_true rfl)) dX4_equal_69 ⟨Nat.zero_le _, Nat.zero_le _⟩) (fun r er => ?_)
          obtain rfl : r = clR τ.2 (2 * i) := er
          refine lv_aload_n hx hb dX4_equal_72 rfl (lv_at hl 0 rfl) ?_
          refine lv_iconst (v := 2) hx hb dX4_equal_73 (by decide) ?_
          refine lv_iload_n hx hb dX4_equal_74 rfl (lv_at hl 2 rfl) ?_
          refine lv_imul hx hb dX4_equal_75 ?_
          refine lv_topi (fun y6 ey6 => ?_)
          obtain rfl : y6 = nI (2 * j) := ey6.trans (pk_mul 2 j)
          refine vp_callSi (W.runV (As := [.int (nI (2 * j))]) (rest := [.int (clR τ.2 (2 * i))]) ⟨hx, hb, hml, hown, hts⟩ (m_classOf l dC dI AB cI cZ τ (k := 2 * j) (by omega)) (cwV 1 hts gX4_equal_X4_classOf rfl rfl rfl (by decide +kernel) ⟨Nat.le_of_ble_eq_true rfl, Nat.le_of_ble_eq_true rfl⟩) ⟨bm_P, va_recv hK hP (ci := 4) (q0 := 0) rfl rfl, fun U hU hW => ⟨rfl, by rw [hU]; exact hP, va_K.moved hW.alike hK⟩⟩ rfl rfl hl.1 rfl (lv_room (Nat.le_of_ble_eq_true rfl)) dX4_equal_76 ⟨Nat.zero_le _, Nat.zero_le _⟩) (fun r er => ?_)
          obtain rfl : r = clR τ.2 (2 * j) := er
          refine lv_icmp_ne (tgt := 107) hx hb dX4_equal_79 (by decide) (fun c79_7 => ?_) (fun c79_7 => ?_)
          · skip
            refine lv_iconst (v := 0) hx hb dX4_equal_107 (by decide) ?_
            exact W.zret hx hb hr rfl (fun t ht hW => ⟨_, rfl, by show _ = b2i (eqR τ.2 i j); unfold eqR; rw [if_neg (by rintro (z9 | z9); exact c6_0 z9; exact c15_2 z9), if_pos c51_3, decide_eq_false c62_4, decide_eq_false c79_7]; rfl, ht⟩) (fun q h => nomatch h) dX4_equal_108
          · skip
            refine lv_aload_n hx hb dX4_equal_82 rfl (lv_at hl 0 rfl) ?_
            refine lv_iconst (v := 2) hx hb dX4_equal_83 (by decide) ?_
            refine lv_iload_n hx hb dX4_equal_84 rfl (lv_at hl 1 rfl) ?_
            refine lv_imul hx hb dX4_equal_85 ?_
            refine lv_topi (fun y8 ey8 => ?_)
            obtain rfl : y8 = nI (2 * i) := ey8.trans (pk_mul 2 i)
            refine lv_iconst (v := 1) hx hb dX4_equal_86 (by decide) ?_
            refine lv_iadd hx hb dX4_equal_87 ?_
            refine lv_topi (fun y9 ey9 => ?_)
            obtain rfl : y9 = nI (2 * i + 1) := ey9.trans (nI_1 (2 * i))
            refine vp_callSi (W.runV (As := [.int (nI (2 * i + 1))]) (rest := []) ⟨hx, hb, hml, hown, hts⟩ (m_classOf l dC dI AB cI cZ τ (k := 2 * i + 1) (by omega)) (cwV 1 hts gX4_equal_X4_classOf rfl rfl rfl (by decide +kernel) ⟨Nat.le_of_ble_eq_true rfl, Nat.le_of_ble_eq_true rfl⟩) ⟨bm_P, va_recv hK hP (ci := 4) (q0 := 0) rfl rfl, fun U hU hW => ⟨rfl, by rw [hU]; exact hP, va_K.moved hW.alike hK⟩⟩ rfl rfl hl.1 rfl (lv_room (Nat.le_of_ble_eq_true rfl)) dX4_equal_88 ⟨Nat.zero_le _, Nat.zero_le _⟩) (fun r er => ?_)
            obtain rfl : r = clR τ.2 (2 * i + 1) := er
            refine lv_aload_n hx hb dX4_equal_91 rfl (lv_at hl 0 rfl) ?_
            refine lv_iconst (v := 2) hx hb dX4_equal_92 (by decide) ?_
            refine lv_iload_n hx hb dX4_equal_93 rfl (lv_at hl 2 rfl) ?_
            refine lv_imul hx hb dX4_equal_94 ?_
            refine lv_topi (fun y10 ey10 => ?_)
            obtain rfl : y10 = nI (2 * j) := ey10.trans (pk_mul 2 j)
            refine lv_iconst (v := 1) hx hb dX4_equal_95 (by decide) ?_
            refine lv_iadd hx hb dX4_equal_96 ?_
            refine lv_topi (fun y11 ey11 => ?_)
            obtain rfl : y11 = nI (2 * j + 1) := ey11.trans (nI_1 (2 * j))
            refine vp_callSi (W.runV (As := [.int (nI (2 * j + 1))]) (rest := [.int (clR τ.2 (2 * i + 1))]) ⟨hx, hb, hml, hown, hts⟩ (m_classOf l dC dI AB cI cZ τ (k := 2 * j + 1) (by omega)) (cwV 1 hts gX4_equal_X4_classOf rfl rfl rfl (by decide +kernel) ⟨Nat.le_of_ble_eq_true rfl, Nat.le_of_ble_eq_true rfl⟩) ⟨bm_P, va_recv hK hP (ci := 4) (q0 := 0) rfl rfl, fun U hU hW => ⟨rfl, by rw [hU]; exact hP, va_K.moved hW.alike hK⟩⟩ rfl rfl hl.1 rfl (lv_room (Nat.le_of_ble_eq_true rfl)) dX4_equal_97 ⟨Nat.zero_le _, Nat.zero_le _⟩) (fun r er => ?_)
            obtain rfl : r = clR τ.2 (2 * j + 1) := er
            refine lv_icmp_ne (tgt := 107) hx hb dX4_equal_100 (by decide) (fun c100_12 => ?_) (fun c100_12 => ?_)
            · skip
              refine lv_iconst (v := 0) hx hb dX4_equal_107 (by decide) ?_
              exact W.zret hx hb hr rfl (fun t ht hW => ⟨_, rfl, by show _ = b2i (eqR τ.2 i j); unfold eqR; rw [if_neg (by rintro (z9 | z9); exact c6_0 z9; exact c15_2 z9), if_pos c51_3, decide_eq_false c62_4, decide_eq_true c79_7, decide_eq_false c100_12]; rfl, ht⟩) (fun q h => nomatch h) dX4_equal_108
            · skip
              refine lv_iconst (v := 1) hx hb dX4_equal_103 (by decide) ?_
              refine lv_goto (tgt := 108) hx hb dX4_equal_104 (by decide) ?_
              exact W.zret hx hb hr rfl (fun t ht hW => ⟨_, rfl, by show _ = b2i (eqR τ.2 i j); unfold eqR; rw [if_neg (by rintro (z9 | z9); exact c6_0 z9; exact c15_2 z9), if_pos c51_3, decide_eq_false c62_4, decide_eq_true c79_7, decide_eq_true c100_12]; rfl, ht⟩) (fun q h => nomatch h) dX4_equal_108
      · skip
        refine lv_iconst (v := 0) hx hb dX4_equal_54 (by decide) ?_
        exact W.zret hx hb hr rfl (fun t ht hW => ⟨_, rfl, by show _ = b2i (eqR τ.2 i j); unfold eqR; rw [if_neg (by rintro (z9 | z9); exact c6_0 z9; exact c15_2 z9), if_neg c51_3]; rfl, ht⟩) (fun q h => nomatch h) dX4_equal_55
    · skip
      refine lv_aload_n hx hb dX4_equal_18 rfl (lv_at hl 0 rfl) ?_
      refine va_get (D := (dC, dI)) (ci := 4) (v := .ref (AB 22)) (C := RX4) (T := TX4) (N := 33) hx hb hts hinX4 hown hK hP 0 rfl rfl 22 (by decide) (hts _ (List.mem_of_getElem? (i := 1) rfl)) (fun _ h9 => h9) rfl dX4_equal_19 ?_
      refine lv_iload_n hx hb dX4_equal_22 rfl (lv_at hl 1 rfl) ?_
      refine va_iald hx hb hK hP 18 0 rfl rfl (vp_in_nI (show i < 64 by omega) (by decide)) dX4_equal_23 ?_
      rw [nI_clamp (show i < 2 ^ 31 by have := (show i < 64 by omega); omega)]
      refine lv_aload_n hx hb dX4_equal_24 rfl (lv_at hl 0 rfl) ?_
      refine va_get (D := (dC, dI)) (ci := 4) (v := .ref (AB 22)) (C := RX4) (T := TX4) (N := 33) hx hb hts hinX4 hown hK hP 0 rfl rfl 22 (by decide) (hts _ (List.mem_of_getElem? (i := 1) rfl)) (fun _ h9 => h9) rfl dX4_equal_25 ?_
      refine lv_iload_n hx hb dX4_equal_28 rfl (lv_at hl 2 rfl) ?_
      refine va_iald hx hb hK hP 18 0 rfl rfl (vp_in_nI (show j < 64 by omega) (by decide)) dX4_equal_29 ?_
      rw [nI_clamp (show j < 2 ^ 31 by have := (show j < 64 by omega); omega)]
      refine lv_icmp_ne (tgt := 37) hx hb dX4_equal_30 (by decide) (fun c30_13 => ?_) (fun c30_13 => ?_)
      · skip
        refine lv_iconst (v := 0) hx hb dX4_equal_37 (by decide) ?_
        exact W.zret hx hb hr rfl (fun t ht hW => ⟨_, rfl, by show _ = b2i (eqR τ.2 i j); unfold eqR; rw [if_pos (Or.inr c15_2), decide_eq_false c30_13]; rfl, ht⟩) (fun q h => nomatch h) dX4_equal_38
      · skip
        refine lv_iconst (v := 1) hx hb dX4_equal_33 (by decide) ?_
        refine lv_goto (tgt := 38) hx hb dX4_equal_34 (by decide) ?_
        exact W.zret hx hb hr rfl (fun t ht hW => ⟨_, rfl, by show _ = b2i (eqR τ.2 i j); unfold eqR; rw [if_pos (Or.inr c15_2), decide_eq_true c30_13]; rfl, ht⟩) (fun q h => nomatch h) dX4_equal_38
