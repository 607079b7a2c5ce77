theorem usR_one {th : Nat → Bool} {τ : MS} {a u : Nat} (hu : u < 16) : usR th τ a ((1 : Int32) <<< (nI u &&& 31)) = (th a && demF (τ.2 2 a) (τ.2 3 a) u) := by
  unfold usR
  congr 1
  cases hd : demF (τ.2 2 a) (τ.2 3 a) u with
  | true =>
    refine allN_iff.mpr fun j hj => ?_
    unfold usP
    rw [b_one (by omega) (by omega)]
    by_cases h : j = u
    · rw [h, hd]; simp
    · rw [decide_eq_false h]; rfl
  | false =>
    cases hq : allN (usP τ a ((1 : Int32) <<< (nI u &&& 31))) 16 with
    | false => rfl
    | true =>
      have h9 := allN_iff.mp hq u hu
      unfold usP at h9
      rw [b_one (by omega) (by omega), decide_eq_true rfl, hd] at h9
      cases h9
theorem ti_bit : ∀ j, j < 4 → ∀ u, u < 16 → bt (tiI (some j)) u = bt (nI u) j := by decide +kernel
theorem ti_none (u : Nat) : bt (tiI none) u = false := b_0 u
set_option maxHeartbeats 4000000 in
set_option maxRecDepth 100000 in
/-- execute 0 -/
theorem m_execute0 (l : Launch) (dC : Nat → ClassId) (dI : Nat → Nat → Nat) (AB : Nat → Nat) (cI cZ : ClassId) (τ : MS) (sz : Nat) {th : Nat → Bool} {ef : Nat → Nat} (hM : mok th ef τ) {c0 : Nat} {ta tp tq : Nat → Option Nat} {ht : Nat → Nat} (hT : tbl c0 ta tp tq ht) (hc0 : 0 < c0) (hA0 : tbA τ.2 c0 ta tp tq) {se : Nat → Option Nat} (hse : ∀ a, a < 8 → τ.2 4 a = o2i (se a) ∧ ∀ j, se a = some j → j < 4) {y : Nat → Nat → Nat} (hy : ∀ a, a < 8 → ∀ u, u < 16 → nxN τ.2 a u (ef a) = nI (y a u) ∧ y a u < 16) {h0 : Nat} (hh : τ.1 28 = nI h0) (h16 : h0 < 16) (h1 : ¬ τ.1 15 = 0) : Met l yX4_execute wsX4_execute ({ frames := 12, cells := 0, slots := 0, locals := 600 }) (va_Pc [.ref (AB 0)] (mF dC dI AB cI cZ sz τ)) (va_Qi (fun (r : Int32) (τ2 : MS) => r = b2i (crO (usR th τ) y (fun a => tiI (se a)) (mk (demF (τ.1 13) (τ.1 14))) ta tp tq 4 (some 0) h0 0 (τ.2 30)).1 ∧ τ2 = (va_up (va_up τ.1 0 0) 29 (nI (crO (usR th τ) y (fun a => tiI (se a)) (mk (demF (τ.1 13) (τ.1 14))) ta tp tq 4 (some 0) h0 0 (τ.2 30)).2.1), va_up τ.2 30 (crO (usR th τ) y (fun a => tiI (se a)) (mk (demF (τ.1 13) (τ.1 14))) ta tp tq 4 (some 0) h0 0 (τ.2 30)).2.2)) (mB dC dI AB cI cZ (va_A (mW AB cI cZ τ) sz)) (va_A (mW AB cI cZ τ) sz)) 0 0 (va_A (mW AB cI cZ τ) sz) := by
  obtain ⟨sc, ar⟩ := τ
  refine Met.ofW (cc := cX4_execute) (maxL := 5) (ret := (some .boolean)) (by decide) rfl ?_
  intro p e s m args below meth c s₁ B hml hv
  obtain ⟨rfl, hsz, hP, hK, hD0⟩ := hv
  have hx := B.exec
  have hb := B.bytes
  have hr := B.returns
  have hts := atoms_spec (ws := wsX4_execute) B.pre
  have hown : s.vm.findClass RX4 = some m.cls := findClass_of_methodNamed B.named
  have hlocks := B.notSynchronized
  have hinX4 : ∀ w ∈ wsX40, w ∈ wsX4_execute := fun _ h => List.mem_cons_of_mem _ (List.mem_append_right _ h)
  subst hsz
  have hD := hD0.self (sz := s.heap.size)
  generalize hAe : va_A (mW AB cI cZ _) s.heap.size = V at hD ⊢
  have hA : ∀ q : Nat, s.heap.size ≤ q → V q := fun q h => by rw [← hAe]; exact Or.inr h
  have hS : va_S V s.heap s.heap [] := va_S.rf
  have hl := lv_entry ([.ref (AB 0)]) (n := 5) (Nat.le_of_ble_eq_true rfl)
  rw [lg_entry_eq]
  generalize (lg_sl ([.ref (AB 0)]) ++ List.replicate (5 - (lg_sl ([.ref (AB 0)])).length) Slot.unset).toArray = ls at hl ⊢
  have hl : lv_has ls 5 [(0, .ref (AB 0))] := hl
  have hP : va_P (dC, dI) vwCl (mL AB cI cZ sc ar) s.heap := hP
  have hD : va_D V (mL AB cI cZ sc ar) := hD
  have hA0 : ∀ k, k < c0 → ar 16 k = o2i (ta k) ∧ ar 17 k = o2i (tp k) ∧ ar 18 k = o2i (tq k) := hA0
  have hse : ∀ a, a < 8 → ar 4 a = o2i (se a) ∧ ∀ j, se a = some j → j < 4 := hse
  have hy : ∀ a, a < 8 → ∀ u, u < 16 → nxN ar a u (ef a) = nI (y a u) ∧ y a u < 16 := hy
  have hh : sc 28 = nI h0 := hh
  have hc31 := hT.1
  refine lv_aload_n hx hb dX4_execute_0 rfl (lv_at hl 0 rfl) ?_
  refine lv_iconst (v := 0) hx hb dX4_execute_1 (by decide) ?_
  refine va_put (D := (dC, dI)) (ci := 4) (v := .int 0) (ty := .int) (C := RX4) (T := TX4) (N := 33) hx hb hts hinX4 tyX4 tyX4_ok nmX4 hown hK hP hD hS 0 rfl rfl 0 (by decide) (hts _ (List.mem_of_getElem? (i := 1) rfl)) (fun _ h9 => h9) rfl (by decide +kernel) rfl rfl (Nat.le_of_ble_eq_true rfl) dX4_execute_2 (fun H locs hP hD hS => ?_)
  have hP : va_P (dC, dI) vwCl (mL AB cI cZ (va_up sc 0 0) ar) H := hP
  have hD : va_D V (mL AB cI cZ (va_up sc 0 0) ar) := hD
  refine lv_aload_n hx hb dX4_execute_5 rfl (lv_at hl 0 rfl) ?_
  refine va_get (D := (dC, dI)) (ci := 4) (v := .int (sc 15)) (C := RX4) (T := TX4) (N := 33) hx hb hts hinX4 hown hK hP 0 rfl rfl 15 (by decide) (hts _ (List.mem_of_getElem? (i := 2) rfl)) (fun _ h9 => h9) rfl dX4_execute_6 ?_
  refine lv_if_eq (tgt := 19) hx hb dX4_execute_9 (by decide) (fun c9_0 => ?_) (fun c9_0 => ?_)
  · exact absurd c9_0 h1
  · skip
    refine lv_aload_n hx hb dX4_execute_12 rfl (lv_at hl 0 rfl) ?_
    refine va_get (D := (dC, dI)) (ci := 4) (v := .int (sc 28)) (C := RX4) (T := TX4) (N := 33) hx hb hts hinX4 hown hK hP 0 rfl rfl 28 (by decide) (hts _ (List.mem_of_getElem? (i := 3) rfl)) (fun _ h9 => h9) rfl dX4_execute_13 ?_
    refine lv_if_ge (tgt := 33) hx hb dX4_execute_16 (by decide) (fun c16_1 => ?_) (fun c16_1 => ?_)
    · skip
      refine lv_aload_n hx hb dX4_execute_33 rfl (lv_at hl 0 rfl) ?_
      refine lv_iconst (v := 0) hx hb dX4_execute_34 (by decide) ?_
      refine va_put (D := (dC, dI)) (ci := 4) (v := .int 0) (ty := .int) (C := RX4) (T := TX4) (N := 33) hx hb hts hinX4 tyX4 tyX4_ok nmX4 hown hK hP hD hS 0 rfl rfl 29 (by decide) (hts _ (List.mem_of_getElem? (i := 4) rfl)) (fun _ h9 => h9) rfl (by decide +kernel) rfl rfl (Nat.le_of_ble_eq_true rfl) dX4_execute_35 (fun H locs hP hD hS => ?_)
      have hP : va_P (dC, dI) vwCl (mL AB cI cZ (va_up (va_up sc 0 0) 29 0) ar) H := hP
      have hD : va_D V (mL AB cI cZ (va_up (va_up sc 0 0) 29 0) ar) := hD
      refine lv_aload_n hx hb dX4_execute_38 rfl (lv_at hl 0 rfl) ?_
      refine va_get (D := (dC, dI)) (ci := 4) (v := .int (sc 28)) (C := RX4) (T := TX4) (N := 33) hx hb hts hinX4 hown hK hP 0 rfl rfl 28 (by decide) (hts _ (List.mem_of_getElem? (i := 3) rfl)) (fun _ h9 => h9) rfl dX4_execute_39 ?_
      refine lv_topi (fun y2 ey2 => ?_)
      obtain rfl : y2 = nI h0 := ey2.trans (hh)
      refine lv_istore_n (lv' := [(1, .int (nI h0)), (0, .ref (AB 0))]) hx hb dX4_execute_42 rfl hl (by decide) rfl (fun ls hl => ?_)
      refine lv_iconst (v := 0) hx hb dX4_execute_43 (by decide) ?_
      refine lv_topi (fun y3 ey3 => ?_)
      obtain rfl : y3 = o2i (some 0) := ey3.trans (rfl)
      refine lv_istore_n (lv' := [(2, .int (o2i (some 0))), (1, .int (nI h0)), (0, .ref (AB 0))]) hx hb dX4_execute_44 rfl hl (by decide) rfl (fun ls hl => ?_)
      obtain ⟨Rs, hRs⟩ : ∃ R, crO (usR th (sc, ar)) y (fun a => tiI (se a)) (mk (demF (sc 13) (sc 14))) ta tp tq 4 (some 0) h0 0 (ar 30) = R := ⟨_, rfl⟩
      refine w_loopH (pc := 45) 4 (fun k2 ls H locs => ∃ (o : Option Nat) (u : Nat) (tr : Nat → Int32), va_P (dC, dI) vwCl (mL AB cI cZ (va_up (va_up sc 0 0) 29 (nI k2)) (va_up ar 30 tr)) H ∧ va_D V (mL AB cI cZ (va_up (va_up sc 0 0) 29 (nI k2)) (va_up ar 30 tr)) ∧ va_S V s.heap H locs ∧ crO (usR th (sc, ar)) y (fun a => tiI (se a)) (mk (demF (sc 13) (sc 14))) ta tp tq (4 - k2) o u k2 tr = Rs ∧ u < 16 ∧ (∀ k, o = some k → k < c0 ∧ ht k ≤ 4 - k2) ∧ lv_has ls 5 [(0, .ref (AB 0)), (1, .int (nI u)), (2, .int (o2i o))]) ?_ 0 (Nat.zero_le _) ls _ _ ⟨some 0, h0, ar 30, hP, hD, hS, hRs, h16, (fun k hk => by cases hk; exact ⟨hc0, (hT.2 0 hc0).1⟩), lv_sub hl [2, 1, 0] rfl⟩
      intro k2 ls H locs hk hI ih
      obtain ⟨o, u, tr, hP, hD, hS, hR, hu, ho, hl⟩ := hI
      refine lv_iload_n hx hb dX4_execute_45 rfl (lv_at hl 2 rfl) ?_
      refine lv_if_lt (tgt := 176) hx hb dX4_execute_46 (by decide) (fun c46_4 => ?_) (fun c46_4 => ?_)
      · skip
        have hon : o = none := o2i_neg (N := c0) (by omega) (fun a h9 => (ho a h9).1) (Int32.not_le.mpr c46_4)
        rw [hon, crO_no] at hR
        refine lv_iload_n hx hb dX4_execute_176 rfl (lv_at hl 2 rfl) ?_
        refine lv_if_lt (tgt := 199) hx hb dX4_execute_177 (by decide) (fun c177_5 => ?_) (fun c177_5 => ?_)
        · skip
          refine lv_iconst (v := 0) hx hb dX4_execute_199 (by decide) ?_
          subst hR
          exact W.zret hx hb hr rfl (fun t ht hW => ⟨⟨_, (va_up (va_up sc 0 0) 29 (nI k2), va_up ar 30 tr), rfl, ⟨by rw [show crO (usR th (sc, ar)) y (fun a => tiI (se a)) (mk (demF ((sc, ar).1 13) ((sc, ar).1 14))) ta tp tq 4 (some 0) h0 0 ((sc, ar).2 30) = _ from hRs]; rfl, by rw [show crO (usR th (sc, ar)) y (fun a => tiI (se a)) (mk (demF ((sc, ar).1 13) ((sc, ar).1 14))) ta tp tq 4 (some 0) h0 0 ((sc, ar).2 30) = _ from hRs]⟩, by rw [ht]; exact hP, hD⟩, hS.F ht⟩) hS.2.2 dX4_execute_200
        · exact absurd (by rw [hon]; decide) c177_5
      · skip
        obtain ⟨k, hok⟩ := o2i_some (Int32.not_lt.mp c46_4)
        subst hok
        have hkc := (ho k rfl).1
        have hkh := (ho k rfl).2
        obtain ⟨e16, e17, e18⟩ := hA0 k hkc
        have hl : lv_has ls 5 [(0, .ref (AB 0)), (1, .int (nI u)), (2, .int (nI k))] := hl
        refine lv_aload_n hx hb dX4_execute_49 rfl (lv_at hl 0 rfl) ?_
        refine va_get (D := (dC, dI)) (ci := 4) (v := .ref (AB 16)) (C := RX4) (T := TX4) (N := 33) hx hb hts hinX4 hown hK hP 0 rfl rfl 16 (by decide) (hts _ (List.mem_of_getElem? (i := 5) rfl)) (fun _ h9 => h9) rfl dX4_execute_50 ?_
        refine lv_iload_n hx hb dX4_execute_53 rfl (lv_at hl 2 rfl) ?_
        refine va_iald hx hb hK hP 12 0 rfl rfl (vp_in_nI (show k < 32 by omega) (by decide)) dX4_execute_54 ?_
        rw [nI_clamp (show k < 2 ^ 31 by have := (show k < 32 by omega); omega)]
        refine lv_topi (fun y6 ey6 => ?_)
        obtain rfl : y6 = o2i (ta k) := ey6.trans (e16)
        refine lv_if_lt (tgt := 176) hx hb dX4_execute_55 (by decide) (fun c55_7 => ?_) (fun c55_7 => ?_)
        · skip
          have hta : ta k = none := o2i_neg (N := 8) (by decide) (fun a h9 => ((hT.2 k hkc).2.1 a h9).1) (Int32.not_le.mpr c55_7)
          rw [crO_leaf hta, bt_mk' _ hu] at hR
          refine lv_iload_n hx hb dX4_execute_176 rfl (lv_at hl 2 rfl) ?_
          refine lv_if_lt (tgt := 199) hx hb dX4_execute_177 (by decide) (fun c177_8 => ?_) (fun c177_8 => ?_)
          · exact absurd c177_8 (nI_ge0 (by omega))
          · skip
            refine lv_aload_n hx hb dX4_execute_180 rfl (lv_at hl 0 rfl) ?_
            refine va_get (D := (dC, dI)) (ci := 4) (v := .int (sc 13)) (C := RX4) (T := TX4) (N := 33) hx hb hts hinX4 hown hK hP 0 rfl rfl 13 (by decide) (hts _ (List.mem_of_getElem? (i := 13) rfl)) (fun _ h9 => h9) rfl dX4_execute_181 ?_
            refine lv_aload_n hx hb dX4_execute_184 rfl (lv_at hl 0 rfl) ?_
            refine va_get (D := (dC, dI)) (ci := 4) (v := .int (sc 14)) (C := RX4) (T := TX4) (N := 33) hx hb hts hinX4 hown hK hP 0 rfl rfl 14 (by decide) (hts _ (List.mem_of_getElem? (i := 14) rfl)) (fun _ h9 => h9) rfl dX4_execute_185 ?_
            refine lv_iload_n hx hb dX4_execute_188 rfl (lv_at hl 1 rfl) ?_
            refine vp_callSi (W.runS (As := [.int (sc 13), .int (sc 14), .int (nI u)]) (rest := []) ⟨hx, hb, hml, hown, hts⟩ (m_holds l (sc 13) (sc 14) u) (va_cwS 3 hts gX4_execute_X4_holds rfl rfl rfl (by decide +kernel) ⟨Nat.le_of_ble_eq_true rfl, Nat.le_of_ble_eq_true rfl⟩) ⟨bl_T, fun U hU hW => ⟨rfl, trivial⟩⟩ rfl rfl hl.1 rfl (lv_room (Nat.le_of_ble_eq_true rfl)) dX4_execute_189 ⟨Nat.zero_le _, Nat.zero_le _⟩) (fun r er => ?_)
            obtain rfl : r = b2i (demF (sc 13) (sc 14) u) := er
            refine lv_if_eq (tgt := 199) hx hb dX4_execute_192 (by decide) (fun c192_9 => ?_) (fun c192_9 => ?_)
            · skip
              refine lv_iconst (v := 0) hx hb dX4_execute_199 (by decide) ?_
              rw [b2i_0.mp c192_9] at hR
              subst hR
              exact W.zret hx hb hr rfl (fun t ht hW => ⟨⟨_, (va_up (va_up sc 0 0) 29 (nI k2), va_up ar 30 tr), rfl, ⟨by rw [show crO (usR th (sc, ar)) y (fun a => tiI (se a)) (mk (demF ((sc, ar).1 13) ((sc, ar).1 14))) ta tp tq 4 (some 0) h0 0 ((sc, ar).2 30) = _ from hRs]; rfl, by rw [show crO (usR th (sc, ar)) y (fun a => tiI (se a)) (mk (demF ((sc, ar).1 13) ((sc, ar).1 14))) ta tp tq 4 (some 0) h0 0 ((sc, ar).2 30) = _ from hRs]⟩, by rw [ht]; exact hP, hD⟩, hS.F ht⟩) hS.2.2 dX4_execute_200
            · skip
              refine lv_iconst (v := 1) hx hb dX4_execute_195 (by decide) ?_
              refine lv_goto (tgt := 200) hx hb dX4_execute_196 (by decide) ?_
              rw [b2i_n0.mp c192_9] at hR
              subst hR
              exact W.zret hx hb hr rfl (fun t ht hW => ⟨⟨_, (va_up (va_up sc 0 0) 29 (nI k2), va_up ar 30 tr), rfl, ⟨by rw [show crO (usR th (sc, ar)) y (fun a => tiI (se a)) (mk (demF ((sc, ar).1 13) ((sc, ar).1 14))) ta tp tq 4 (some 0) h0 0 ((sc, ar).2 30) = _ from hRs]; rfl, by rw [show crO (usR th (sc, ar)) y (fun a => tiI (se a)) (mk (demF ((sc, ar).1 13) ((sc, ar).1 14))) ta tp tq 4 (some 0) h0 0 ((sc, ar).2 30) = _ from hRs]⟩, by rw [ht]; exact hP, hD⟩, hS.F ht⟩) hS.2.2 dX4_execute_200
        · skip
          obtain ⟨a, hta⟩ := o2i_some (Int32.not_lt.mp c55_7)
          have ha8 := ((hT.2 k hkc).2.1 a hta).1
          have hh1 := ((hT.2 k hkc).2.1 a hta).2
          obtain ⟨f, hf⟩ : ∃ f, 4 - k2 = f + 1 := ⟨3 - k2, by omega⟩
          rw [hf] at hR
          refine lv_aload_n hx hb dX4_execute_58 rfl (lv_at hl 0 rfl) ?_
          refine va_get (D := (dC, dI)) (ci := 4) (v := .ref (AB 16)) (C := RX4) (T := TX4) (N := 33) hx hb hts hinX4 hown hK hP 0 rfl rfl 16 (by decide) (hts _ (List.mem_of_getElem? (i := 5) rfl)) (fun _ h9 => h9) rfl dX4_execute_59 ?_
          refine lv_iload_n hx hb dX4_execute_62 rfl (lv_at hl 2 rfl) ?_
          refine va_iald hx hb hK hP 12 0 rfl rfl (vp_in_nI (show k < 32 by omega) (by decide)) dX4_execute_63 ?_
          rw [nI_clamp (show k < 2 ^ 31 by have := (show k < 32 by omega); omega)]
          refine lv_topi (fun y10 ey10 => ?_)
          obtain rfl : y10 = nI a := ey10.trans (e16.trans (by rw [hta]; rfl))
          refine lv_istore_n (lv' := [(3, .int (nI a)), (0, .ref (AB 0)), (1, .int (nI u)), (2, .int (nI k))]) hx hb dX4_execute_64 rfl hl (by decide) rfl (fun ls hl => ?_)
          refine lv_aload_n hx hb dX4_execute_65 rfl (lv_at hl 1 rfl) ?_
          refine va_get (D := (dC, dI)) (ci := 4) (v := .ref (AB 1)) (C := RX4) (T := TX4) (N := 33) hx hb hts hinX4 hown hK hP 0 rfl rfl 1 (by decide) (hts _ (List.mem_of_getElem? (i := 6) rfl)) (fun _ h9 => h9) rfl dX4_execute_66 ?_
          refine lv_iload_n hx hb dX4_execute_69 rfl (lv_at hl 0 rfl) ?_
          refine va_zald hx hb hK hP 1 1 rfl rfl (vp_in_nI (show a < 8 by omega) (by decide)) dX4_execute_70 ?_
          rw [nI_clamp (show a < 2 ^ 31 by have := (show a < 8 by omega); omega)]
          refine lv_topi (fun y11 ey11 => ?_)
          obtain rfl : y11 = b2i (th a) := ey11.trans ((hM a ha8).1)
          refine lv_if_eq (tgt := 93) hx hb dX4_execute_71 (by decide) (fun c71_12 => ?_) (fun c71_12 => ?_)
          · skip
            rw [crO_stop hta (by rw [usR_one hu, b2i_0.mp c71_12]; rfl)] at hR
            refine lv_iconst (v := 0) hx hb dX4_execute_93 (by decide) ?_
            subst hR
            exact W.zret hx hb hr rfl (fun t ht hW => ⟨⟨_, (va_up (va_up sc 0 0) 29 (nI k2), va_up ar 30 tr), rfl, ⟨by rw [show crO (usR th (sc, ar)) y (fun a => tiI (se a)) (mk (demF ((sc, ar).1 13) ((sc, ar).1 14))) ta tp tq 4 (some 0) h0 0 ((sc, ar).2 30) = _ from hRs]; rfl, by rw [show crO (usR th (sc, ar)) y (fun a => tiI (se a)) (mk (demF ((sc, ar).1 13) ((sc, ar).1 14))) ta tp tq 4 (some 0) h0 0 ((sc, ar).2 30) = _ from hRs]⟩, by rw [ht]; exact hP, hD⟩, hS.F ht⟩) hS.2.2 dX4_execute_94
          · skip
            refine lv_aload_n hx hb dX4_execute_74 rfl (lv_at hl 1 rfl) ?_
            refine va_get (D := (dC, dI)) (ci := 4) (v := .ref (AB 2)) (C := RX4) (T := TX4) (N := 33) hx hb hts hinX4 hown hK hP 0 rfl rfl 2 (by decide) (hts _ (List.mem_of_getElem? (i := 7) rfl)) (fun _ h9 => h9) rfl dX4_execute_75 ?_
            refine lv_iload_n hx hb dX4_execute_78 rfl (lv_at hl 0 rfl) ?_
            refine va_iald hx hb hK hP 2 0 rfl rfl (vp_in_nI (show a < 8 by omega) (by decide)) dX4_execute_79 ?_
            rw [nI_clamp (show a < 2 ^ 31 by have := (show a < 8 by omega); omega)]
            refine lv_aload_n hx hb dX4_execute_80 rfl (lv_at hl 1 rfl) ?_
            refine va_get (D := (dC, dI)) (ci := 4) (v := .ref (AB 3)) (C := RX4) (T := TX4) (N := 33) hx hb hts hinX4 hown hK hP 0 rfl rfl 3 (by decide) (hts _ (List.mem_of_getElem? (i := 8) rfl)) (fun _ h9 => h9) rfl dX4_execute_81 ?_
            refine lv_iload_n hx hb dX4_execute_84 rfl (lv_at hl 0 rfl) ?_
            refine va_iald hx hb hK hP 3 0 rfl rfl (vp_in_nI (show a < 8 by omega) (by decide)) dX4_execute_85 ?_
            rw [nI_clamp (show a < 2 ^ 31 by have := (show a < 8 by omega); omega)]
            refine lv_iload_n hx hb dX4_execute_86 rfl (lv_at hl 2 rfl) ?_
            refine vp_callSi (W.runS (As := [.int (ar 2 a), .int (ar 3 a), .int (nI u)]) (rest := []) ⟨hx, hb, hml, hown, hts⟩ (m_holds l (ar 2 a) (ar 3 a) u) (va_cwS 3 hts gX4_execute_X4_holds rfl rfl rfl (by decide +kernel) ⟨Nat.le_of_ble_eq_true rfl, Nat.le_of_ble_eq_true rfl⟩) ⟨bl_T, fun U hU hW => ⟨rfl, trivial⟩⟩ rfl rfl hl.1 rfl (lv_room (Nat.le_of_ble_eq_true rfl)) dX4_execute_87 ⟨Nat.zero_le _, Nat.zero_le _⟩) (fun r er => ?_)
            obtain rfl : r = b2i (demF (ar 2 a) (ar 3 a) u) := er
            refine lv_if_ne (tgt := 95) hx hb dX4_execute_90 (by decide) (fun c90_13 => ?_) (fun c90_13 => ?_)
            · skip
              rw [crO_go hta (by rw [usR_one hu, b2i_n0.mp c71_12, show demF ((sc, ar).2 2 a) ((sc, ar).2 3 a) u = true from b2i_n0.mp c90_13]; rfl)] at hR
              refine lv_aload_n hx hb dX4_execute_95 rfl (lv_at hl 1 rfl) ?_
              refine lv_iload_n hx hb dX4_execute_96 rfl (lv_at hl 0 rfl) ?_
              refine lv_iload_n hx hb dX4_execute_97 rfl (lv_at hl 2 rfl) ?_
              refine vp_callSi (W.runV (As := [.int (nI a), .int (nI u)]) (rest := []) ⟨hx, hb, hml, hown, hts⟩ (m_next l dC dI AB cI cZ (va_up (va_up sc 0 0) 29 (nI k2), va_up ar 30 tr) ef ha8 ((frz_sc (frz_sc (frz_up frz.rf (by decide)) (by decide)) (by decide)).mok hM _ ha8).2.1 (hM _ ha8).2.2 (k := u) hu) (cwV 2 hts gX4_execute_X4_next rfl rfl rfl (by decide +kernel) ⟨Nat.le_of_ble_eq_true rfl, Nat.le_of_ble_eq_true rfl⟩) ⟨bm_P, va_recv hK hP (ci := 4) (q0 := 0) rfl rfl, fun U hU hW => ⟨rfl, by rw [hU]; exact hP, va_K.moved hW.alike hK⟩⟩ rfl rfl hl.1 rfl (lv_room (Nat.le_of_ble_eq_true rfl)) dX4_execute_98 ⟨Nat.zero_le _, Nat.zero_le _⟩) (fun r er => ?_)
              obtain rfl : r = nxN (sc, ar).2 a u (ef a) := er.trans ((frz_sc (frz_sc (frz_up frz.rf (by decide)) (by decide)) (by decide)).nx _ _ _)
              rw [show nxN (sc, ar).2 a u (ef a) = nI (y a u) from (hy a ha8 u hu).1]
              refine lv_istore_n (lv' := [(1, .int (nI (y a u))), (3, .int (nI a)), (0, .ref (AB 0)), (2, .int (nI k))]) hx hb dX4_execute_101 rfl hl (by decide) rfl (fun ls hl => ?_)
              refine lv_aload_n hx hb dX4_execute_102 rfl (lv_at hl 2 rfl) ?_
              refine va_get (D := (dC, dI)) (ci := 4) (v := .ref (AB 30)) (C := RX4) (T := TX4) (N := 33) hx hb hts hinX4 hown hK hP 0 rfl rfl 30 (by decide) (hts _ (List.mem_of_getElem? (i := 9) rfl)) (fun _ h9 => h9) rfl dX4_execute_103 ?_
              refine lv_aload_n hx hb dX4_execute_106 rfl (lv_at hl 2 rfl) ?_
              refine va_get (D := (dC, dI)) (ci := 4) (v := .int (nI k2)) (C := RX4) (T := TX4) (N := 33) hx hb hts hinX4 hown hK hP 0 rfl rfl 29 (by decide) (hts _ (List.mem_of_getElem? (i := 4) rfl)) (fun _ h9 => h9) rfl dX4_execute_107 ?_
              refine lv_iload_n hx hb dX4_execute_110 rfl (lv_at hl 0 rfl) ?_
              refine va_iast hx hb hK hP hD hS 24 0 rfl rfl (vp_in_nI (show k2 < 8 by omega) (by decide)) dX4_execute_111 (fun H locs hP hD hS => ?_)
              rw [nI_clamp (show k2 < 2 ^ 31 by have := (show k2 < 8 by omega); omega)] at hP hD
              have hP : va_P (dC, dI) vwCl (mL AB cI cZ (va_up (va_up sc 0 0) 29 (nI k2)) (va_up ar 30 (upd tr k2 (nI (y a u))))) H := hP
              have hD : va_D V (mL AB cI cZ (va_up (va_up sc 0 0) 29 (nI k2)) (va_up ar 30 (upd tr k2 (nI (y a u))))) := hD
              refine lv_aload_n hx hb dX4_execute_112 rfl (lv_at hl 2 rfl) ?_
              refine lv_dup hx hb dX4_execute_113 rfl ?_
              refine va_get (D := (dC, dI)) (ci := 4) (v := .int (nI k2)) (C := RX4) (T := TX4) (N := 33) hx hb hts hinX4 hown hK hP 0 rfl rfl 29 (by decide) (hts _ (List.mem_of_getElem? (i := 4) rfl)) (fun _ h9 => h9) rfl dX4_execute_114 ?_
              refine lv_iconst (v := 1) hx hb dX4_execute_117 (by decide) ?_
              refine lv_iadd hx hb dX4_execute_118 ?_
              refine lv_topi (fun y14 ey14 => ?_)
              obtain rfl : y14 = nI (k2 + 1) := ey14.trans (nI_1 k2)
              refine va_put (D := (dC, dI)) (ci := 4) (v := .int (nI (k2 + 1))) (ty := .int) (C := RX4) (T := TX4) (N := 33) hx hb hts hinX4 tyX4 tyX4_ok nmX4 hown hK hP hD hS 0 rfl rfl 29 (by decide) (hts _ (List.mem_of_getElem? (i := 4) rfl)) (fun _ h9 => h9) rfl (by decide +kernel) rfl rfl (Nat.le_of_ble_eq_true rfl) dX4_execute_119 (fun H locs hP hD hS => ?_)
              have hP : va_P (dC, dI) vwCl (mL AB cI cZ (va_up (va_up sc 0 0) 29 (nI (k2 + 1))) (va_up ar 30 (upd tr k2 (nI (y a u))))) H := hP
              have hD : va_D V (mL AB cI cZ (va_up (va_up sc 0 0) 29 (nI (k2 + 1))) (va_up ar 30 (upd tr k2 (nI (y a u))))) := hD
              refine lv_aload_n hx hb dX4_execute_122 rfl (lv_at hl 2 rfl) ?_
              refine va_get (D := (dC, dI)) (ci := 4) (v := .ref (AB 4)) (C := RX4) (T := TX4) (N := 33) hx hb hts hinX4 hown hK hP 0 rfl rfl 4 (by decide) (hts _ (List.mem_of_getElem? (i := 10) rfl)) (fun _ h9 => h9) rfl dX4_execute_123 ?_
              refine lv_iload_n hx hb dX4_execute_126 rfl (lv_at hl 1 rfl) ?_
              refine va_iald hx hb hK hP 4 0 rfl rfl (vp_in_nI (show a < 8 by omega) (by decide)) dX4_execute_127 ?_
              rw [nI_clamp (show a < 2 ^ 31 by have := (show a < 8 by omega); omega)]
              refine lv_topi (fun y15 ey15 => ?_)
              obtain rfl : y15 = o2i (se a) := ey15.trans ((hse a ha8).1)
              refine lv_if_lt (tgt := 149) hx hb dX4_execute_128 (by decide) (fun c128_16 => ?_) (fun c128_16 => ?_)
              · skip
                have hsn : se a = none := o2i_neg (N := 4) (by decide) (hse a ha8).2 (Int32.not_le.mpr c128_16)
                refine lv_iconst (v := 0) hx hb dX4_execute_149 (by decide) ?_
                refine lv_istore (lv' := [(4, .int 0), (1, .int (nI (y a u))), (3, .int (nI a)), (0, .ref (AB 0)), (2, .int (nI k))]) hx hb dX4_execute_150 hl (by decide) rfl (fun ls hl => ?_)
                refine lv_iload hx hb dX4_execute_152 (lv_at hl 0 rfl) ?_
                refine lv_if_eq (tgt := 166) hx hb dX4_execute_154 (by decide) (fun c154_17 => ?_) (fun c154_17 => ?_)
                · skip
                  refine lv_aload_n hx hb dX4_execute_166 rfl (lv_at hl 3 rfl) ?_
                  refine va_get (D := (dC, dI)) (ci := 4) (v := .ref (AB 17)) (C := RX4) (T := TX4) (N := 33) hx hb hts hinX4 hown hK hP 0 rfl rfl 17 (by decide) (hts _ (List.mem_of_getElem? (i := 12) rfl)) (fun _ h9 => h9) rfl dX4_execute_167 ?_
                  refine lv_iload_n hx hb dX4_execute_170 rfl (lv_at hl 4 rfl) ?_
                  refine va_iald hx hb hK hP 13 0 rfl rfl (vp_in_nI (show k < 32 by omega) (by decide)) dX4_execute_171 ?_
                  rw [nI_clamp (show k < 2 ^ 31 by have := (show k < 32 by omega); omega)]
                  refine lv_topi (fun y18 ey18 => ?_)
                  obtain rfl : y18 = o2i (tp k) := ey18.trans (e17)
                  refine lv_istore_n (lv' := [(2, .int (o2i (tp k))), (4, .int 0), (1, .int (nI (y a u))), (3, .int (nI a)), (0, .ref (AB 0))]) hx hb dX4_execute_172 rfl hl (by decide) rfl (fun ls hl => ?_)
                  refine lv_goto (tgt := 45) hx hb dX4_execute_173 (by decide) ?_
                  rw [if_neg (show ¬ bt (tiI (se a)) (y a u) = true by rw [hsn, ti_none]; decide)] at hR
                  exact ih ls H locs ⟨tp k, y a u, upd tr k2 (nI (y a u)), hP, hD, hS, by rw [show 4 - (k2 + 1) = f by omega]; exact hR, (hy a ha8 u hu).2, (fun q hq => by have h9 := (hT.2 k hkc).2.2.1 q hq; omega), lv_sub hl [4, 2, 0] rfl⟩ (by omega)
                · exact absurd rfl c154_17
              · skip
                obtain ⟨j, hsj⟩ := o2i_some (Int32.not_lt.mp c128_16)
                have hj4 := (hse a ha8).2 j hsj
                refine lv_iload_n hx hb dX4_execute_131 rfl (lv_at hl 0 rfl) ?_
                refine lv_aload_n hx hb dX4_execute_132 rfl (lv_at hl 2 rfl) ?_
                refine va_get (D := (dC, dI)) (ci := 4) (v := .ref (AB 4)) (C := RX4) (T := TX4) (N := 33) hx hb hts hinX4 hown hK hP 0 rfl rfl 4 (by decide) (hts _ (List.mem_of_getElem? (i := 10) rfl)) (fun _ h9 => h9) rfl dX4_execute_133 ?_
                refine lv_iload_n hx hb dX4_execute_136 rfl (lv_at hl 1 rfl) ?_
                refine va_iald hx hb hK hP 4 0 rfl rfl (vp_in_nI (show a < 8 by omega) (by decide)) dX4_execute_137 ?_
                rw [nI_clamp (show a < 2 ^ 31 by have := (show a < 8 by omega); omega)]
                refine lv_topi (fun y19 ey19 => ?_)
                obtain rfl : y19 = nI j := ey19.trans ((hse a ha8).1.trans (by rw [hsj]; rfl))
                refine lv_ishr hx hb dX4_execute_138 ?_
                refine lv_iconst (v := 1) hx hb dX4_execute_139 (by decide) ?_
                refine lv_iand hx hb dX4_execute_140 ?_
                refine lv_topi (fun y20 ey20 => ?_)
                obtain rfl : y20 = b2i (bt (nI (y a u)) j) := ey20.trans (b_shr1 (by omega) _)
                refine lv_iconst (v := 1) hx hb dX4_execute_141 (by decide) ?_
                refine lv_icmp_ne (tgt := 149) hx hb dX4_execute_142 (by decide) (fun c142_21 => ?_) (fun c142_21 => ?_)
                · skip
                  refine lv_iconst (v := 0) hx hb dX4_execute_149 (by decide) ?_
                  refine lv_istore (lv' := [(4, .int 0), (1, .int (nI (y a u))), (3, .int (nI a)), (0, .ref (AB 0)), (2, .int (nI k))]) hx hb dX4_execute_150 hl (by decide) rfl (fun ls hl => ?_)
                  refine lv_iload hx hb dX4_execute_152 (lv_at hl 0 rfl) ?_
                  refine lv_if_eq (tgt := 166) hx hb dX4_execute_154 (by decide) (fun c154_22 => ?_) (fun c154_22 => ?_)
                  · skip
                    refine lv_aload_n hx hb dX4_execute_166 rfl (lv_at hl 3 rfl) ?_
                    refine va_get (D := (dC, dI)) (ci := 4) (v := .ref (AB 17)) (C := RX4) (T := TX4) (N := 33) hx hb hts hinX4 hown hK hP 0 rfl rfl 17 (by decide) (hts _ (List.mem_of_getElem? (i := 12) rfl)) (fun _ h9 => h9) rfl dX4_execute_167 ?_
                    refine lv_iload_n hx hb dX4_execute_170 rfl (lv_at hl 4 rfl) ?_
                    refine va_iald hx hb hK hP 13 0 rfl rfl (vp_in_nI (show k < 32 by omega) (by decide)) dX4_execute_171 ?_
                    rw [nI_clamp (show k < 2 ^ 31 by have := (show k < 32 by omega); omega)]
                    refine lv_topi (fun y23 ey23 => ?_)
                    obtain rfl : y23 = o2i (tp k) := ey23.trans (e17)
                    refine lv_istore_n (lv' := [(2, .int (o2i (tp k))), (4, .int 0), (1, .int (nI (y a u))), (3, .int (nI a)), (0, .ref (AB 0))]) hx hb dX4_execute_172 rfl hl (by decide) rfl (fun ls hl => ?_)
                    refine lv_goto (tgt := 45) hx hb dX4_execute_173 (by decide) ?_
                    rw [if_neg (show ¬ bt (tiI (se a)) (y a u) = true by rw [hsj, ti_bit j hj4 _ (hy a ha8 u hu).2, b2i_n1.mp c142_21]; decide)] at hR
                    exact ih ls H locs ⟨tp k, y a u, upd tr k2 (nI (y a u)), hP, hD, hS, by rw [show 4 - (k2 + 1) = f by omega]; exact hR, (hy a ha8 u hu).2, (fun q hq => by have h9 := (hT.2 k hkc).2.2.1 q hq; omega), lv_sub hl [4, 2, 0] rfl⟩ (by omega)
                  · exact absurd rfl c154_22
                · skip
                  refine lv_iconst (v := 1) hx hb dX4_execute_145 (by decide) ?_
                  refine lv_goto (tgt := 150) hx hb dX4_execute_146 (by decide) ?_
                  refine lv_istore (lv' := [(4, .int 1), (1, .int (nI (y a u))), (3, .int (nI a)), (0, .ref (AB 0)), (2, .int (nI k))]) hx hb dX4_execute_150 hl (by decide) rfl (fun ls hl => ?_)
                  refine lv_iload hx hb dX4_execute_152 (lv_at hl 0 rfl) ?_
                  refine lv_if_eq (tgt := 166) hx hb dX4_execute_154 (by decide) (fun c154_24 => ?_) (fun c154_24 => ?_)
                  · exact absurd c154_24 (by decide)
                  · skip
                    refine lv_aload_n hx hb dX4_execute_157 rfl (lv_at hl 3 rfl) ?_
                    refine va_get (D := (dC, dI)) (ci := 4) (v := .ref (AB 18)) (C := RX4) (T := TX4) (N := 33) hx hb hts hinX4 hown hK hP 0 rfl rfl 18 (by decide) (hts _ (List.mem_of_getElem? (i := 11) rfl)) (fun _ h9 => h9) rfl dX4_execute_158 ?_
                    refine lv_iload_n hx hb dX4_execute_161 rfl (lv_at hl 4 rfl) ?_
                    refine va_iald hx hb hK hP 14 0 rfl rfl (vp_in_nI (show k < 32 by omega) (by decide)) dX4_execute_162 ?_
                    rw [nI_clamp (show k < 2 ^ 31 by have := (show k < 32 by omega); omega)]
                    refine lv_topi (fun y25 ey25 => ?_)
                    obtain rfl : y25 = o2i (tq k) := ey25.trans (e18)
                    refine lv_goto (tgt := 172) hx hb dX4_execute_163 (by decide) ?_
                    refine lv_istore_n (lv' := [(2, .int (o2i (tq k))), (4, .int 1), (1, .int (nI (y a u))), (3, .int (nI a)), (0, .ref (AB 0))]) hx hb dX4_execute_172 rfl hl (by decide) rfl (fun ls hl => ?_)
                    refine lv_goto (tgt := 45) hx hb dX4_execute_173 (by decide) ?_
                    rw [if_pos (show bt (tiI (se a)) (y a u) = true by rw [hsj, ti_bit j hj4 _ (hy a ha8 u hu).2]; exact b2i_1.mp c142_21)] at hR
                    exact ih ls H locs ⟨tq k, y a u, upd tr k2 (nI (y a u)), hP, hD, hS, by rw [show 4 - (k2 + 1) = f by omega]; exact hR, (hy a ha8 u hu).2, (fun q hq => by have h9 := (hT.2 k hkc).2.2.2 q hq; omega), lv_sub hl [4, 2, 0] rfl⟩ (by omega)
            · skip
              rw [crO_stop hta (by rw [usR_one hu, show demF ((sc, ar).2 2 a) ((sc, ar).2 3 a) u = false from b2i_0.mp c90_13, Bool.and_false])] at hR
              refine lv_iconst (v := 0) hx hb dX4_execute_93 (by decide) ?_
              subst hR
              exact W.zret hx hb hr rfl (fun t ht hW => ⟨⟨_, (va_up (va_up sc 0 0) 29 (nI k2), va_up ar 30 tr), rfl, ⟨by rw [show crO (usR th (sc, ar)) y (fun a => tiI (se a)) (mk (demF ((sc, ar).1 13) ((sc, ar).1 14))) ta tp tq 4 (some 0) h0 0 ((sc, ar).2 30) = _ from hRs]; rfl, by rw [show crO (usR th (sc, ar)) y (fun a => tiI (se a)) (mk (demF ((sc, ar).1 13) ((sc, ar).1 14))) ta tp tq 4 (some 0) h0 0 ((sc, ar).2 30) = _ from hRs]⟩, by rw [ht]; exact hP, hD⟩, hS.F ht⟩) hS.2.2 dX4_execute_94
    · exact absurd (by rw [hh]; exact nI_nlt0 (by omega)) c16_1
set_option maxHeartbeats 4000000 in
set_option maxRecDepth 100000 in
/-- execute 1 -/
theorem m_execute1 (l : Launch) (dC : Nat → ClassId) (dI : Nat → Nat → Nat) (AB : Nat → Nat) (cI cZ : ClassId) (τ : MS) (sz : Nat) (h : τ.1 15 = 0 ∨ τ.1 28 = -1) : Met l yX4_execute wsX4_execute ({ frames := 12, cells := 0, slots := 0, locals := 600 }) (va_Pc [.ref (AB 0)] (mF dC dI AB cI cZ sz τ)) (va_Qi (fun (r : Int32) (τ2 : MS) => r = 0 ∧ τ2 = (va_up τ.1 0 1, τ.2)) (mB dC dI AB cI cZ (va_A (mW AB cI cZ τ) sz)) (va_A (mW AB cI cZ τ) sz)) 0 0 (va_A (mW AB cI cZ τ) sz) := by
  obtain ⟨sc, ar⟩ := τ
  refine Met.ofW (cc := cX4_execute) (maxL := 5) (ret := (some .boolean)) (by decide) rfl ?_
  intro p e s m args below meth c s₁ B hml hv
  obtain ⟨rfl, hsz, hP, hK, hD0⟩ := hv
  have hx := B.exec
  have hb := B.bytes
  have hr := B.returns
  have hts := atoms_spec (ws := wsX4_execute) B.pre
  have hown : s.vm.findClass RX4 = some m.cls := findClass_of_methodNamed B.named
  have hlocks := B.notSynchronized
  have hinX4 : ∀ w ∈ wsX40, w ∈ wsX4_execute := fun _ h => List.mem_cons_of_mem _ (List.mem_append_right _ h)
  subst hsz
  have hD := hD0.self (sz := s.heap.size)
  generalize hAe : va_A (mW AB cI cZ _) s.heap.size = V at hD ⊢
  have hA : ∀ q : Nat, s.heap.size ≤ q → V q := fun q h => by rw [← hAe]; exact Or.inr h
  have hS : va_S V s.heap s.heap [] := va_S.rf
  have hl := lv_entry ([.ref (AB 0)]) (n := 5) (Nat.le_of_ble_eq_true rfl)
  rw [lg_entry_eq]
  generalize (lg_sl ([.ref (AB 0)]) ++ List.replicate (5 - (lg_sl ([.ref (AB 0)])).length) Slot.unset).toArray = ls at hl ⊢
  have hl : lv_has ls 5 [(0, .ref (AB 0))] := hl
  have hP : va_P (dC, dI) vwCl (mL AB cI cZ sc ar) s.heap := hP
  have hD : va_D V (mL AB cI cZ sc ar) := hD
  refine lv_aload_n hx hb dX4_execute_0 rfl (lv_at hl 0 rfl) ?_
  refine lv_iconst (v := 0) hx hb dX4_execute_1 (by decide) ?_
  refine va_put (D := (dC, dI)) (ci := 4) (v := .int 0) (ty := .int) (C := RX4) (T := TX4) (N := 33) hx hb hts hinX4 tyX4 tyX4_ok nmX4 hown hK hP hD hS 0 rfl rfl 0 (by decide) (hts _ (List.mem_of_getElem? (i := 1) rfl)) (fun _ h9 => h9) rfl (by decide +kernel) rfl rfl (Nat.le_of_ble_eq_true rfl) dX4_execute_2 (fun H locs hP hD hS => ?_)
  have hP : va_P (dC, dI) vwCl (mL AB cI cZ (va_up sc 0 0) ar) H := hP
  have hD : va_D V (mL AB cI cZ (va_up sc 0 0) ar) := hD
  refine lv_aload_n hx hb dX4_execute_5 rfl (lv_at hl 0 rfl) ?_
  refine va_get (D := (dC, dI)) (ci := 4) (v := .int (sc 15)) (C := RX4) (T := TX4) (N := 33) hx hb hts hinX4 hown hK hP 0 rfl rfl 15 (by decide) (hts _ (List.mem_of_getElem? (i := 2) rfl)) (fun _ h9 => h9) rfl dX4_execute_6 ?_
  refine lv_if_eq (tgt := 19) hx hb dX4_execute_9 (by decide) (fun c9_0 => ?_) (fun c9_0 => ?_)
  · skip
    refine lv_aload_n hx hb dX4_execute_19 rfl (lv_at hl 0 rfl) ?_
    refine lv_iconst (v := 1) hx hb dX4_execute_20 (by decide) ?_
    have hFc := m_free (τ := (va_up sc 0 0, ar)) hD hS hA
    refine va_calli (va_runV (As := [.int 1]) (rest := []) ⟨hx, hb, hml, hown, hts⟩ (m_fail l dC dI AB cI cZ (va_up sc 0 0, ar) H.size 1) (cwV 1 hts gX4_execute_X4_fail rfl rfl rfl (by decide +kernel) ⟨Nat.le_of_ble_eq_true rfl, Nat.le_of_ble_eq_true rfl⟩) ⟨bm_F, va_recv hK hP (ci := 4) (q0 := 0) rfl rfl, fun U hU hW => ⟨rfl, by rw [hU], by rw [hU]; exact hP, va_K.moved hW.alike hK, hf_any hD⟩⟩ rfl rfl hl.1 rfl (lv_room (Nat.le_of_ble_eq_true rfl)) dX4_execute_21 ⟨Nat.zero_le _, Nat.zero_le _⟩) hS (fun q _ h => hFc q h) hFc (fun r u t H locs ht hvm hw hB hz1 hk1 hS => ?_)
    obtain ⟨hP1, hD1⟩ := hB
    rw [ht] at hP1
    obtain ⟨rfl, rfl⟩ := hw
    have hP : va_P (dC, dI) vwCl (mL AB cI cZ (va_up sc 0 1) ar) H := hP1
    have hD : va_D V (mL AB cI cZ (va_up sc 0 1) ar) := hf_weak hD1 hFc
    clear hP1 hD1 hFc
    refine lv_if_le (tgt := 31) hx hb dX4_execute_24 (by decide) (fun c24_1 => ?_) (fun c24_1 => ?_)
    · skip
      refine lv_iconst (v := 0) hx hb dX4_execute_31 (by decide) ?_
      exact W.zret hx hb hr rfl (fun t ht hW => ⟨⟨_, (va_up sc 0 1, ar), rfl, ⟨rfl, rfl⟩, by rw [ht]; exact hP, hD⟩, hS.F ht⟩) hS.2.2 dX4_execute_32
    · exact absurd (by decide) c24_1
  · skip
    refine lv_aload_n hx hb dX4_execute_12 rfl (lv_at hl 0 rfl) ?_
    refine va_get (D := (dC, dI)) (ci := 4) (v := .int (sc 28)) (C := RX4) (T := TX4) (N := 33) hx hb hts hinX4 hown hK hP 0 rfl rfl 28 (by decide) (hts _ (List.mem_of_getElem? (i := 3) rfl)) (fun _ h9 => h9) rfl dX4_execute_13 ?_
    refine lv_if_ge (tgt := 33) hx hb dX4_execute_16 (by decide) (fun c16_2 => ?_) (fun c16_2 => ?_)
    · exact h.elim (fun z9 => absurd z9 c9_0) (fun z9 => absurd (by rw [← z9]; exact c16_2) (show ¬ (0 : Int32) ≤ -1 by decide))
    · skip
      refine lv_aload_n hx hb dX4_execute_19 rfl (lv_at hl 0 rfl) ?_
      refine lv_iconst (v := 1) hx hb dX4_execute_20 (by decide) ?_
      have hFc := m_free (τ := (va_up sc 0 0, ar)) hD hS hA
      refine va_calli (va_runV (As := [.int 1]) (rest := []) ⟨hx, hb, hml, hown, hts⟩ (m_fail l dC dI AB cI cZ (va_up sc 0 0, ar) H.size 1) (cwV 1 hts gX4_execute_X4_fail rfl rfl rfl (by decide +kernel) ⟨Nat.le_of_ble_eq_true rfl, Nat.le_of_ble_eq_true rfl⟩) ⟨bm_F, va_recv hK hP (ci := 4) (q0 := 0) rfl rfl, fun U hU hW => ⟨rfl, by rw [hU], by rw [hU]; exact hP, va_K.moved hW.alike hK, hf_any hD⟩⟩ rfl rfl hl.1 rfl (lv_room (Nat.le_of_ble_eq_true rfl)) dX4_execute_21 ⟨Nat.zero_le _, Nat.zero_le _⟩) hS (fun q _ h => hFc q h) hFc (fun r u t H locs ht hvm hw hB hz1 hk1 hS => ?_)
      obtain ⟨hP1, hD1⟩ := hB
      rw [ht] at hP1
      obtain ⟨rfl, rfl⟩ := hw
      have hP : va_P (dC, dI) vwCl (mL AB cI cZ (va_up sc 0 1) ar) H := hP1
      have hD : va_D V (mL AB cI cZ (va_up sc 0 1) ar) := hf_weak hD1 hFc
      clear hP1 hD1 hFc
      refine lv_if_le (tgt := 31) hx hb dX4_execute_24 (by decide) (fun c24_3 => ?_) (fun c24_3 => ?_)
      · skip
        refine lv_iconst (v := 0) hx hb dX4_execute_31 (by decide) ?_
        exact W.zret hx hb hr rfl (fun t ht hW => ⟨⟨_, (va_up sc 0 1, ar), rfl, ⟨rfl, rfl⟩, by rw [ht]; exact hP, hD⟩, hS.F ht⟩) hS.2.2 dX4_execute_32
      · exact absurd (by decide) c24_3
