set_option maxHeartbeats 4000000 in
set_option maxRecDepth 100000 in
/-- carryOut() -/
theorem c_X3_carryOut (l : Launch) (dC : Nat → ClassId) (dI : Nat → Nat → Nat) (A : Nat → Nat) (cI cQ : ClassId) (σ : HS) (sz : Nat) {c0 : Nat} {ta tp tq : Nat → Option Nat} (hT : tOK (tcS σ) c0 ta tp tq) (hc0 : 0 < c0) {h0 : Nat} (hh : hiS σ = nI h0) (h16 : h0 < 16) (y : Nat → Nat → Nat) (hy1 : ∀ a, a < 8 → ∀ j, j < 16 → nxS σ a j = nI (y a j) ∧ y a j < 16) : Met l yX3_carryOut wsX3_carryOut ({ frames := 2, cells := 0, slots := 0, locals := 45 }) (va_Pc [.ref (A 0)] (hfF dC dI A cI cQ sz σ)) (va_Qi (fun (r : Int32) (τ : HS) => r = b2i (crO (usS σ) y (snS σ) (goS σ) ta tp tq 4 (some 0) h0 0 (trS σ)).1 ∧ τ = ((clS σ, stS σ, goS σ, hiS σ, nI (crO (usS σ) y (snS σ) (goS σ) ta tp tq 4 (some 0) h0 0 (trS σ)).2.1), σ.2.1, σ.2.2.1, (crO (usS σ) y (snS σ) (goS σ) ta tp tq 4 (some 0) h0 0 (trS σ)).2.2, σ.2.2.2.2)) (hfB dC dI A cI cQ (va_A (hfW A cI cQ σ) sz)) (va_A (hfW A cI cQ σ) sz)) 0 0 (va_A (hfW A cI cQ σ) sz) := by
  obtain ⟨⟨cl, st, go, hi, ma⟩, ⟨ct, tc⟩, ⟨be, co, ap⟩, tr, ac, nx⟩ := σ
  have hh : hi = nI h0 := hh
  subst hh
  refine Met.ofW (cc := cX3_carryOut) (maxL := 4) (ret := (some .boolean)) (by decide) rfl ?_
  intro p e s m args below meth c s₁ B hml hv
  obtain ⟨rfl, hsz, hP, hX, hD0⟩ := hv
  have hx := B.exec
  have hb := B.bytes
  have hr := B.returns
  have hts := atoms_spec (ws := wsX3_carryOut) B.pre
  have hown : s.vm.findClass RX3 = some m.cls := findClass_of_methodNamed B.named
  have hlocks := B.notSynchronized
  have hK := hX.1
  have hinX3 : ∀ w ∈ wsX30, w ∈ wsX3_carryOut := fun _ h => List.mem_cons_of_mem _ (List.mem_append_left _ (List.mem_append_left _ (List.mem_append_right _ h)))
  have hinX0 : ∀ w ∈ wsX00, w ∈ wsX3_carryOut := fun _ h => List.mem_cons_of_mem _ (List.mem_append_left _ (List.mem_append_right _ h))
  have hinX2 : ∀ w ∈ wsX20, w ∈ wsX3_carryOut := fun _ h => List.mem_cons_of_mem _ (List.mem_append_right _ h)
  subst hsz
  have hD := hD0.self (sz := s.heap.size)
  generalize hAe : va_A (hfW A cI cQ _) s.heap.size = V at hD ⊢
  have hA : ∀ q : Nat, s.heap.size ≤ q → V q := fun q h => by rw [← hAe]; exact Or.inr h
  have hS : va_S V s.heap s.heap [] := va_S.rf
  have hl := lv_entry ([.ref (A 0)]) (n := 4) (Nat.le_of_ble_eq_true rfl)
  rw [lg_entry_eq]
  generalize (lg_sl ([.ref (A 0)]) ++ List.replicate (4 - (lg_sl ([.ref (A 0)])).length) Slot.unset).toArray = ls at hl ⊢
  have hl : lv_has ls 4 [(0, .ref (A 0))] := hl
  have hP : va_P (dC, dI) vwCl (hfL A cI cQ cl st go (nI h0) ma ct tc be co ap tr ac nx) s.heap := hP
  have hD : va_D V (hfL A cI cQ cl st go (nI h0) ma ct tc be co ap tr ac nx) := hD
  have hy1 : ∀ a, a < 8 → ∀ j, j < 16 → nx a j = nI (y a j) ∧ y a j < 16 := hy1
  have hT : tOK tc c0 ta tp tq := hT
  have hc31 := hT.1
  refine lv_iconst (v := 0) hx hb dX3_carryOut_0 (by decide) ?_
  refine lv_istore_n (lv' := [(1, .int 0), (0, .ref (A 0))]) hx hb dX3_carryOut_1 rfl hl (by decide) rfl (fun ls hl => ?_)
  refine lv_aload_n hx hb dX3_carryOut_2 rfl (lv_at hl 1 rfl) ?_
  refine va_get (D := (dC, dI)) (ci := 3) (v := .int (nI h0)) (C := RX3) (T := TX3) (N := 9) hx hb hts hinX3 hown hK hP 0 rfl rfl 7 (by decide) (hts _ (List.mem_of_getElem? (i := 1) rfl)) (fun _ h9 => h9) rfl dX3_carryOut_3 ?_
  refine lv_istore_n (lv' := [(2, .int (nI h0)), (1, .int 0), (0, .ref (A 0))]) hx hb dX3_carryOut_6 rfl hl (by decide) rfl (fun ls hl => ?_)
  refine lv_aload_n hx hb dX3_carryOut_7 rfl (lv_at hl 2 rfl) ?_
  refine lv_iconst (v := 0) hx hb dX3_carryOut_8 (by decide) ?_
  refine va_put (D := (dC, dI)) (ci := 3) (v := .int 0) (ty := .int) (C := RX3) (T := TX3) (N := 9) hx hb hts hinX3 tyX3 tyX3_ok nmX3 hown hK hP hD hS 0 rfl rfl 8 (by decide) (hts _ (List.mem_of_getElem? (i := 2) rfl)) (fun _ h9 => h9) rfl (by decide +kernel) rfl rfl (Nat.le_of_ble_eq_true rfl) dX3_carryOut_9 (fun H locs hP hD hS => ?_)
  have hP : va_P (dC, dI) vwCl (hfL A cI cQ cl st go (nI h0) 0 ct tc be co ap tr ac nx) H := hP
  have hD : va_D V (hfL A cI cQ cl st go (nI h0) 0 ct tc be co ap tr ac nx) := hD
  refine w_loopH (pc := 12) 4 (fun m2 ls H locs => ∃ (o : Option Nat) (s2 : Nat) (t2 : Nat → Int32), (∀ k, o = some k → k < c0) ∧ s2 < 16 ∧ crO (usS ((cl, st, go, nI h0, ma), (ct, tc), (be, co, ap), tr, ac, nx)) y (snS ((cl, st, go, nI h0, ma), (ct, tc), (be, co, ap), tr, ac, nx)) go ta tp tq (4 - m2) o s2 m2 t2 = (crO (usS ((cl, st, go, nI h0, ma), (ct, tc), (be, co, ap), tr, ac, nx)) y (snS ((cl, st, go, nI h0, ma), (ct, tc), (be, co, ap), tr, ac, nx)) go ta tp tq 4 (some 0) h0 0 tr) ∧ va_P (dC, dI) vwCl (hfL A cI cQ cl st go (nI h0) (nI m2) ct tc be co ap t2 ac nx) H ∧ va_D V (hfL A cI cQ cl st go (nI h0) (nI m2) ct tc be co ap t2 ac nx) ∧ va_S V s.heap H locs ∧ lv_has ls 4 [(0, .ref (A 0)), (1, .int (o2i o)), (2, .int (nI s2))]) ?_ 0 (Nat.zero_le _) ls _ _ ⟨some 0, h0, tr, fun k hk => by cases hk; exact hc0, h16, rfl, hP, hD, hS, lv_sub hl [2, 1, 0] rfl⟩
  intro m2 ls H locs hk2 hI ih
  obtain ⟨o, s2, t2, ho, hs2, hE, hP, hD, hS, hl⟩ := hI
  refine lv_aload_n hx hb dX3_carryOut_12 rfl (lv_at hl 0 rfl) ?_
  refine va_get (D := (dC, dI)) (ci := 3) (v := .int (nI m2)) (C := RX3) (T := TX3) (N := 9) hx hb hts hinX3 hown hK hP 0 rfl rfl 8 (by decide) (hts _ (List.mem_of_getElem? (i := 2) rfl)) (fun _ h9 => h9) rfl dX3_carryOut_13 ?_
  refine lv_iconst (v := 4) hx hb dX3_carryOut_16 (by decide) ?_
  refine lv_icmp_ge (tgt := 111) hx hb dX3_carryOut_17 (by decide) (fun c17_0 => ?_) (fun c17_0 => ?_)
  · skip
    obtain rfl := ctr_ge (N := 4) rfl (by decide) hk2 c17_0
    refine lv_iload_n hx hb dX3_carryOut_111 rfl (lv_at hl 1 rfl) ?_
    refine lv_iconst (v := (-1)) hx hb dX3_carryOut_112 (by decide) ?_
    refine lv_icmp_eq (tgt := 144) hx hb dX3_carryOut_113 (by decide) (fun c113_1 => ?_) (fun c113_1 => ?_)
    · skip
      have ho0 := (o2i_none (fun a h => by have := ho a h; omega)).mp c113_1
      subst ho0
      refine lv_iconst (v := 0) hx hb dX3_carryOut_144 (by decide) ?_
      have hE2 : (crO (usS ((cl, st, go, nI h0, ma), (ct, tc), (be, co, ap), tr, ac, nx)) y (snS ((cl, st, go, nI h0, ma), (ct, tc), (be, co, ap), tr, ac, nx)) go ta tp tq 4 (some 0) h0 0 tr) = (false, 4, t2) := hE.symm.trans (crO_no)
      exact W.zret (v := 0) hx hb hr rfl (fun t ht hW => ⟨⟨_, ((cl, st, go, nI h0, nI 4), (ct, tc), (be, co, ap), t2, ac, nx), rfl, by show b2i false = b2i (crO (usS ((cl, st, go, nI h0, ma), (ct, tc), (be, co, ap), tr, ac, nx)) y (snS ((cl, st, go, nI h0, ma), (ct, tc), (be, co, ap), tr, ac, nx)) go ta tp tq 4 (some 0) h0 0 tr).1 ∧ ((cl, st, go, nI h0, nI 4), (ct, tc), (be, co, ap), t2, ac, nx) = ((cl, st, go, nI h0, nI (crO (usS ((cl, st, go, nI h0, ma), (ct, tc), (be, co, ap), tr, ac, nx)) y (snS ((cl, st, go, nI h0, ma), (ct, tc), (be, co, ap), tr, ac, nx)) go ta tp tq 4 (some 0) h0 0 tr).2.1), (ct, tc), (be, co, ap), (crO (usS ((cl, st, go, nI h0, ma), (ct, tc), (be, co, ap), tr, ac, nx)) y (snS ((cl, st, go, nI h0, ma), (ct, tc), (be, co, ap), tr, ac, nx)) go ta tp tq 4 (some 0) h0 0 tr).2.2, ac, nx); rw [hE2]; exact ⟨rfl, rfl⟩, by rw [ht]; exact hP, hD⟩, hS.F ht⟩) hS.2.2 dX3_carryOut_145
    · skip
      obtain ⟨k, rfl, hk⟩ := o2i_nn (N := c0) (by omega) ho c113_1
      have hl : lv_has ls 4 [(0, .ref (A 0)), (1, .int (nI k)), (2, .int (nI s2))] := hl
      obtain ⟨hT0, hT1, hT2, hT3, hT4, hT5⟩ := hT.2 k hk
      refine lv_aload_n hx hb dX3_carryOut_116 rfl (lv_at hl 0 rfl) ?_
      refine va_get (D := (dC, dI)) (ci := 3) (v := .ref (A 2)) (C := RX3) (T := TX3) (N := 9) hx hb hts hinX3 hown hK hP 0 rfl rfl 1 (by decide) (hts _ (List.mem_of_getElem? (i := 3) rfl)) (fun _ h9 => h9) rfl dX3_carryOut_117 ?_
      refine lv_iload_n hx hb dX3_carryOut_120 rfl (lv_at hl 1 rfl) ?_
      refine lv_iconst (v := 0) hx hb dX3_carryOut_121 (by decide) ?_
      refine vp_callSi (W.runV (As := [.int (nI k), .int (nI 0)]) (rest := []) ⟨hx, hb, hml, hown, hts⟩ (c_X2_cell l dC dI A cI cQ ((cl, st, go, nI h0, nI 4), (ct, tc), (be, co, ap), t2, ac, nx) (i := k) (j := 0) (by omega)) (cwV 2 hts gX3_carryOut_X2_cell rfl rfl rfl (by decide +kernel) ⟨Nat.le_of_ble_eq_true rfl, Nat.le_of_ble_eq_true rfl⟩) ⟨bl_P, va_recv hK hP (ci := 2) (q0 := 2) rfl rfl, fun U hU hW => ⟨rfl, by rw [hU]; exact hP, hX.warm hW⟩⟩ rfl rfl hl.1 rfl (lv_room (Nat.le_of_ble_eq_true rfl)) dX3_carryOut_122 ⟨Nat.zero_le _, Nat.zero_le _⟩) (fun r er => ?_)
      obtain rfl : r = o2i (ta k) := er.trans hT0
      refine lv_iconst (v := (-1)) hx hb dX3_carryOut_125 (by decide) ?_
      refine lv_icmp_ne (tgt := 144) hx hb dX3_carryOut_126 (by decide) (fun c126_2 => ?_) (fun c126_2 => ?_)
      · skip
        obtain ⟨a, hta, ha⟩ := o2i_nn (N := 8) (by decide) hT3 c126_2
        refine lv_iconst (v := 0) hx hb dX3_carryOut_144 (by decide) ?_
        have hE2 : (crO (usS ((cl, st, go, nI h0, ma), (ct, tc), (be, co, ap), tr, ac, nx)) y (snS ((cl, st, go, nI h0, ma), (ct, tc), (be, co, ap), tr, ac, nx)) go ta tp tq 4 (some 0) h0 0 tr) = (false, 4, t2) := hE.symm.trans (by rw [show 4 - 4 = 0 from rfl, crO_z, crF_node hta])
        exact W.zret (v := 0) hx hb hr rfl (fun t ht hW => ⟨⟨_, ((cl, st, go, nI h0, nI 4), (ct, tc), (be, co, ap), t2, ac, nx), rfl, by show b2i false = b2i (crO (usS ((cl, st, go, nI h0, ma), (ct, tc), (be, co, ap), tr, ac, nx)) y (snS ((cl, st, go, nI h0, ma), (ct, tc), (be, co, ap), tr, ac, nx)) go ta tp tq 4 (some 0) h0 0 tr).1 ∧ ((cl, st, go, nI h0, nI 4), (ct, tc), (be, co, ap), t2, ac, nx) = ((cl, st, go, nI h0, nI (crO (usS ((cl, st, go, nI h0, ma), (ct, tc), (be, co, ap), tr, ac, nx)) y (snS ((cl, st, go, nI h0, ma), (ct, tc), (be, co, ap), tr, ac, nx)) go ta tp tq 4 (some 0) h0 0 tr).2.1), (ct, tc), (be, co, ap), (crO (usS ((cl, st, go, nI h0, ma), (ct, tc), (be, co, ap), tr, ac, nx)) y (snS ((cl, st, go, nI h0, ma), (ct, tc), (be, co, ap), tr, ac, nx)) go ta tp tq 4 (some 0) h0 0 tr).2.2, ac, nx); rw [hE2]; exact ⟨rfl, rfl⟩, by rw [ht]; exact hP, hD⟩, hS.F ht⟩) hS.2.2 dX3_carryOut_145
      · skip
        have hta := (o2i_none (fun a h => by have := hT3 a h; omega)).mp c126_2
        refine lv_iload_n hx hb dX3_carryOut_129 rfl (lv_at hl 2 rfl) ?_
        refine lv_aload_n hx hb dX3_carryOut_130 rfl (lv_at hl 0 rfl) ?_
        refine va_get (D := (dC, dI)) (ci := 3) (v := .int go) (C := RX3) (T := TX3) (N := 9) hx hb hts hinX3 hown hK hP 0 rfl rfl 6 (by decide) (hts _ (List.mem_of_getElem? (i := 6) rfl)) (fun _ h9 => h9) rfl dX3_carryOut_131 ?_
        refine vp_callSi (W.runS (As := [.int (nI s2), .int go]) (rest := []) ⟨hx, hb, hml, hown, hts⟩ (c_X3_isIn l (k := s2) (by omega) go) (va_cwS 2 hts gX3_carryOut_X3_isIn rfl rfl rfl (by decide +kernel) ⟨Nat.le_of_ble_eq_true rfl, Nat.le_of_ble_eq_true rfl⟩) ⟨bl_T, fun U hU hW => ⟨rfl, trivial⟩⟩ rfl rfl hl.1 rfl (lv_room (Nat.le_of_ble_eq_true rfl)) dX3_carryOut_134 ⟨Nat.zero_le _, Nat.zero_le _⟩) (fun r er => ?_)
        subst er
        refine lv_if_eq (tgt := 144) hx hb dX3_carryOut_137 (by decide) (fun c137_3 => ?_) (fun c137_3 => ?_)
        · skip
          refine lv_iconst (v := 0) hx hb dX3_carryOut_144 (by decide) ?_
          have hE2 : (crO (usS ((cl, st, go, nI h0, ma), (ct, tc), (be, co, ap), tr, ac, nx)) y (snS ((cl, st, go, nI h0, ma), (ct, tc), (be, co, ap), tr, ac, nx)) go ta tp tq 4 (some 0) h0 0 tr) = (false, 4, t2) := hE.symm.trans (by rw [crO_leaf hta, b2i_0.mp c137_3])
          exact W.zret (v := 0) hx hb hr rfl (fun t ht hW => ⟨⟨_, ((cl, st, go, nI h0, nI 4), (ct, tc), (be, co, ap), t2, ac, nx), rfl, by show b2i false = b2i (crO (usS ((cl, st, go, nI h0, ma), (ct, tc), (be, co, ap), tr, ac, nx)) y (snS ((cl, st, go, nI h0, ma), (ct, tc), (be, co, ap), tr, ac, nx)) go ta tp tq 4 (some 0) h0 0 tr).1 ∧ ((cl, st, go, nI h0, nI 4), (ct, tc), (be, co, ap), t2, ac, nx) = ((cl, st, go, nI h0, nI (crO (usS ((cl, st, go, nI h0, ma), (ct, tc), (be, co, ap), tr, ac, nx)) y (snS ((cl, st, go, nI h0, ma), (ct, tc), (be, co, ap), tr, ac, nx)) go ta tp tq 4 (some 0) h0 0 tr).2.1), (ct, tc), (be, co, ap), (crO (usS ((cl, st, go, nI h0, ma), (ct, tc), (be, co, ap), tr, ac, nx)) y (snS ((cl, st, go, nI h0, ma), (ct, tc), (be, co, ap), tr, ac, nx)) go ta tp tq 4 (some 0) h0 0 tr).2.2, ac, nx); rw [hE2]; exact ⟨rfl, rfl⟩, by rw [ht]; exact hP, hD⟩, hS.F ht⟩) hS.2.2 dX3_carryOut_145
        · skip
          refine lv_iconst (v := 1) hx hb dX3_carryOut_140 (by decide) ?_
          refine lv_goto (tgt := 145) hx hb dX3_carryOut_141 (by decide) ?_
          have hE2 : (crO (usS ((cl, st, go, nI h0, ma), (ct, tc), (be, co, ap), tr, ac, nx)) y (snS ((cl, st, go, nI h0, ma), (ct, tc), (be, co, ap), tr, ac, nx)) go ta tp tq 4 (some 0) h0 0 tr) = (true, 4, t2) := hE.symm.trans (by rw [crO_leaf hta, b2i_n0.mp c137_3])
          exact W.zret (v := 1) hx hb hr rfl (fun t ht hW => ⟨⟨_, ((cl, st, go, nI h0, nI 4), (ct, tc), (be, co, ap), t2, ac, nx), rfl, by show b2i true = b2i (crO (usS ((cl, st, go, nI h0, ma), (ct, tc), (be, co, ap), tr, ac, nx)) y (snS ((cl, st, go, nI h0, ma), (ct, tc), (be, co, ap), tr, ac, nx)) go ta tp tq 4 (some 0) h0 0 tr).1 ∧ ((cl, st, go, nI h0, nI 4), (ct, tc), (be, co, ap), t2, ac, nx) = ((cl, st, go, nI h0, nI (crO (usS ((cl, st, go, nI h0, ma), (ct, tc), (be, co, ap), tr, ac, nx)) y (snS ((cl, st, go, nI h0, ma), (ct, tc), (be, co, ap), tr, ac, nx)) go ta tp tq 4 (some 0) h0 0 tr).2.1), (ct, tc), (be, co, ap), (crO (usS ((cl, st, go, nI h0, ma), (ct, tc), (be, co, ap), tr, ac, nx)) y (snS ((cl, st, go, nI h0, ma), (ct, tc), (be, co, ap), tr, ac, nx)) go ta tp tq 4 (some 0) h0 0 tr).2.2, ac, nx); rw [hE2]; exact ⟨rfl, rfl⟩, by rw [ht]; exact hP, hD⟩, hS.F ht⟩) hS.2.2 dX3_carryOut_145
  · skip
    have hlt := ctr_lt (N := 4) rfl (by decide) hk2 c17_0
    refine lv_iload_n hx hb dX3_carryOut_20 rfl (lv_at hl 1 rfl) ?_
    refine lv_iconst (v := (-1)) hx hb dX3_carryOut_21 (by decide) ?_
    refine lv_icmp_eq (tgt := 111) hx hb dX3_carryOut_22 (by decide) (fun c22_4 => ?_) (fun c22_4 => ?_)
    · skip
      have ho0 := (o2i_none (fun a h => by have := ho a h; omega)).mp c22_4
      subst ho0
      refine lv_iload_n hx hb dX3_carryOut_111 rfl (lv_at hl 1 rfl) ?_
      refine lv_iconst (v := (-1)) hx hb dX3_carryOut_112 (by decide) ?_
      refine lv_icmp_eq (tgt := 144) hx hb dX3_carryOut_113 (by decide) (fun c113_5 => ?_) (fun c113_5 => ?_)
      · skip
        refine lv_iconst (v := 0) hx hb dX3_carryOut_144 (by decide) ?_
        have hE2 : (crO (usS ((cl, st, go, nI h0, ma), (ct, tc), (be, co, ap), tr, ac, nx)) y (snS ((cl, st, go, nI h0, ma), (ct, tc), (be, co, ap), tr, ac, nx)) go ta tp tq 4 (some 0) h0 0 tr) = (false, m2, t2) := hE.symm.trans (crO_no)
        exact W.zret (v := 0) hx hb hr rfl (fun t ht hW => ⟨⟨_, ((cl, st, go, nI h0, nI m2), (ct, tc), (be, co, ap), t2, ac, nx), rfl, by show b2i false = b2i (crO (usS ((cl, st, go, nI h0, ma), (ct, tc), (be, co, ap), tr, ac, nx)) y (snS ((cl, st, go, nI h0, ma), (ct, tc), (be, co, ap), tr, ac, nx)) go ta tp tq 4 (some 0) h0 0 tr).1 ∧ ((cl, st, go, nI h0, nI m2), (ct, tc), (be, co, ap), t2, ac, nx) = ((cl, st, go, nI h0, nI (crO (usS ((cl, st, go, nI h0, ma), (ct, tc), (be, co, ap), tr, ac, nx)) y (snS ((cl, st, go, nI h0, ma), (ct, tc), (be, co, ap), tr, ac, nx)) go ta tp tq 4 (some 0) h0 0 tr).2.1), (ct, tc), (be, co, ap), (crO (usS ((cl, st, go, nI h0, ma), (ct, tc), (be, co, ap), tr, ac, nx)) y (snS ((cl, st, go, nI h0, ma), (ct, tc), (be, co, ap), tr, ac, nx)) go ta tp tq 4 (some 0) h0 0 tr).2.2, ac, nx); rw [hE2]; exact ⟨rfl, rfl⟩, by rw [ht]; exact hP, hD⟩, hS.F ht⟩) hS.2.2 dX3_carryOut_145
      · exact absurd rfl c113_5
    · skip
      obtain ⟨k, rfl, hk⟩ := o2i_nn (N := c0) (by omega) ho c22_4
      have hl : lv_has ls 4 [(0, .ref (A 0)), (1, .int (nI k)), (2, .int (nI s2))] := hl
      obtain ⟨hT0, hT1, hT2, hT3, hT4, hT5⟩ := hT.2 k hk
      refine lv_aload_n hx hb dX3_carryOut_25 rfl (lv_at hl 0 rfl) ?_
      refine va_get (D := (dC, dI)) (ci := 3) (v := .ref (A 2)) (C := RX3) (T := TX3) (N := 9) hx hb hts hinX3 hown hK hP 0 rfl rfl 1 (by decide) (hts _ (List.mem_of_getElem? (i := 3) rfl)) (fun _ h9 => h9) rfl dX3_carryOut_26 ?_
      refine lv_iload_n hx hb dX3_carryOut_29 rfl (lv_at hl 1 rfl) ?_
      refine lv_iconst (v := 0) hx hb dX3_carryOut_30 (by decide) ?_
      refine vp_callSi (W.runV (As := [.int (nI k), .int (nI 0)]) (rest := []) ⟨hx, hb, hml, hown, hts⟩ (c_X2_cell l dC dI A cI cQ ((cl, st, go, nI h0, nI m2), (ct, tc), (be, co, ap), t2, ac, nx) (i := k) (j := 0) (by omega)) (cwV 2 hts gX3_carryOut_X2_cell rfl rfl rfl (by decide +kernel) ⟨Nat.le_of_ble_eq_true rfl, Nat.le_of_ble_eq_true rfl⟩) ⟨bl_P, va_recv hK hP (ci := 2) (q0 := 2) rfl rfl, fun U hU hW => ⟨rfl, by rw [hU]; exact hP, hX.warm hW⟩⟩ rfl rfl hl.1 rfl (lv_room (Nat.le_of_ble_eq_true rfl)) dX3_carryOut_31 ⟨Nat.zero_le _, Nat.zero_le _⟩) (fun r er => ?_)
      obtain rfl : r = o2i (ta k) := er.trans hT0
      refine lv_iconst (v := (-1)) hx hb dX3_carryOut_34 (by decide) ?_
      refine lv_icmp_eq (tgt := 111) hx hb dX3_carryOut_35 (by decide) (fun c35_6 => ?_) (fun c35_6 => ?_)
      · skip
        have hta := (o2i_none (fun a h => by have := hT3 a h; omega)).mp c35_6
        refine lv_iload_n hx hb dX3_carryOut_111 rfl (lv_at hl 1 rfl) ?_
        refine lv_iconst (v := (-1)) hx hb dX3_carryOut_112 (by decide) ?_
        refine lv_icmp_eq (tgt := 144) hx hb dX3_carryOut_113 (by decide) (fun c113_7 => ?_) (fun c113_7 => ?_)
        · exact absurd c113_7 (fun q => by have := (o2i_none (o := some k) (fun a h => by cases h; omega)).mp q; cases this)
        · skip
          refine lv_aload_n hx hb dX3_carryOut_116 rfl (lv_at hl 0 rfl) ?_
          refine va_get (D := (dC, dI)) (ci := 3) (v := .ref (A 2)) (C := RX3) (T := TX3) (N := 9) hx hb hts hinX3 hown hK hP 0 rfl rfl 1 (by decide) (hts _ (List.mem_of_getElem? (i := 3) rfl)) (fun _ h9 => h9) rfl dX3_carryOut_117 ?_
          refine lv_iload_n hx hb dX3_carryOut_120 rfl (lv_at hl 1 rfl) ?_
          refine lv_iconst (v := 0) hx hb dX3_carryOut_121 (by decide) ?_
          refine vp_callSi (W.runV (As := [.int (nI k), .int (nI 0)]) (rest := []) ⟨hx, hb, hml, hown, hts⟩ (c_X2_cell l dC dI A cI cQ ((cl, st, go, nI h0, nI m2), (ct, tc), (be, co, ap), t2, ac, nx) (i := k) (j := 0) (by omega)) (cwV 2 hts gX3_carryOut_X2_cell rfl rfl rfl (by decide +kernel) ⟨Nat.le_of_ble_eq_true rfl, Nat.le_of_ble_eq_true rfl⟩) ⟨bl_P, va_recv hK hP (ci := 2) (q0 := 2) rfl rfl, fun U hU hW => ⟨rfl, by rw [hU]; exact hP, hX.warm hW⟩⟩ rfl rfl hl.1 rfl (lv_room (Nat.le_of_ble_eq_true rfl)) dX3_carryOut_122 ⟨Nat.zero_le _, Nat.zero_le _⟩) (fun r er => ?_)
          obtain rfl : r = o2i (ta k) := er.trans hT0
          refine lv_iconst (v := (-1)) hx hb dX3_carryOut_125 (by decide) ?_
          refine lv_icmp_ne (tgt := 144) hx hb dX3_carryOut_126 (by decide) (fun c126_8 => ?_) (fun c126_8 => ?_)
          · exact absurd (by rw [hta]; rfl) c126_8
          · skip
            refine lv_iload_n hx hb dX3_carryOut_129 rfl (lv_at hl 2 rfl) ?_
            refine lv_aload_n hx hb dX3_carryOut_130 rfl (lv_at hl 0 rfl) ?_
            refine va_get (D := (dC, dI)) (ci := 3) (v := .int go) (C := RX3) (T := TX3) (N := 9) hx hb hts hinX3 hown hK hP 0 rfl rfl 6 (by decide) (hts _ (List.mem_of_getElem? (i := 6) rfl)) (fun _ h9 => h9) rfl dX3_carryOut_131 ?_
            refine vp_callSi (W.runS (As := [.int (nI s2), .int go]) (rest := []) ⟨hx, hb, hml, hown, hts⟩ (c_X3_isIn l (k := s2) (by omega) go) (va_cwS 2 hts gX3_carryOut_X3_isIn rfl rfl rfl (by decide +kernel) ⟨Nat.le_of_ble_eq_true rfl, Nat.le_of_ble_eq_true rfl⟩) ⟨bl_T, fun U hU hW => ⟨rfl, trivial⟩⟩ rfl rfl hl.1 rfl (lv_room (Nat.le_of_ble_eq_true rfl)) dX3_carryOut_134 ⟨Nat.zero_le _, Nat.zero_le _⟩) (fun r er => ?_)
            subst er
            refine lv_if_eq (tgt := 144) hx hb dX3_carryOut_137 (by decide) (fun c137_9 => ?_) (fun c137_9 => ?_)
            · skip
              refine lv_iconst (v := 0) hx hb dX3_carryOut_144 (by decide) ?_
              have hE2 : (crO (usS ((cl, st, go, nI h0, ma), (ct, tc), (be, co, ap), tr, ac, nx)) y (snS ((cl, st, go, nI h0, ma), (ct, tc), (be, co, ap), tr, ac, nx)) go ta tp tq 4 (some 0) h0 0 tr) = (false, m2, t2) := hE.symm.trans (by rw [crO_leaf hta, b2i_0.mp c137_9])
              exact W.zret (v := 0) hx hb hr rfl (fun t ht hW => ⟨⟨_, ((cl, st, go, nI h0, nI m2), (ct, tc), (be, co, ap), t2, ac, nx), rfl, by show b2i false = b2i (crO (usS ((cl, st, go, nI h0, ma), (ct, tc), (be, co, ap), tr, ac, nx)) y (snS ((cl, st, go, nI h0, ma), (ct, tc), (be, co, ap), tr, ac, nx)) go ta tp tq 4 (some 0) h0 0 tr).1 ∧ ((cl, st, go, nI h0, nI m2), (ct, tc), (be, co, ap), t2, ac, nx) = ((cl, st, go, nI h0, nI (crO (usS ((cl, st, go, nI h0, ma), (ct, tc), (be, co, ap), tr, ac, nx)) y (snS ((cl, st, go, nI h0, ma), (ct, tc), (be, co, ap), tr, ac, nx)) go ta tp tq 4 (some 0) h0 0 tr).2.1), (ct, tc), (be, co, ap), (crO (usS ((cl, st, go, nI h0, ma), (ct, tc), (be, co, ap), tr, ac, nx)) y (snS ((cl, st, go, nI h0, ma), (ct, tc), (be, co, ap), tr, ac, nx)) go ta tp tq 4 (some 0) h0 0 tr).2.2, ac, nx); rw [hE2]; exact ⟨rfl, rfl⟩, by rw [ht]; exact hP, hD⟩, hS.F ht⟩) hS.2.2 dX3_carryOut_145
            · skip
              refine lv_iconst (v := 1) hx hb dX3_carryOut_140 (by decide) ?_
              refine lv_goto (tgt := 145) hx hb dX3_carryOut_141 (by decide) ?_
              have hE2 : (crO (usS ((cl, st, go, nI h0, ma), (ct, tc), (be, co, ap), tr, ac, nx)) y (snS ((cl, st, go, nI h0, ma), (ct, tc), (be, co, ap), tr, ac, nx)) go ta tp tq 4 (some 0) h0 0 tr) = (true, m2, t2) := hE.symm.trans (by rw [crO_leaf hta, b2i_n0.mp c137_9])
              exact W.zret (v := 1) hx hb hr rfl (fun t ht hW => ⟨⟨_, ((cl, st, go, nI h0, nI m2), (ct, tc), (be, co, ap), t2, ac, nx), rfl, by show b2i true = b2i (crO (usS ((cl, st, go, nI h0, ma), (ct, tc), (be, co, ap), tr, ac, nx)) y (snS ((cl, st, go, nI h0, ma), (ct, tc), (be, co, ap), tr, ac, nx)) go ta tp tq 4 (some 0) h0 0 tr).1 ∧ ((cl, st, go, nI h0, nI m2), (ct, tc), (be, co, ap), t2, ac, nx) = ((cl, st, go, nI h0, nI (crO (usS ((cl, st, go, nI h0, ma), (ct, tc), (be, co, ap), tr, ac, nx)) y (snS ((cl, st, go, nI h0, ma), (ct, tc), (be, co, ap), tr, ac, nx)) go ta tp tq 4 (some 0) h0 0 tr).2.1), (ct, tc), (be, co, ap), (crO (usS ((cl, st, go, nI h0, ma), (ct, tc), (be, co, ap), tr, ac, nx)) y (snS ((cl, st, go, nI h0, ma), (ct, tc), (be, co, ap), tr, ac, nx)) go ta tp tq 4 (some 0) h0 0 tr).2.2, ac, nx); rw [hE2]; exact ⟨rfl, rfl⟩, by rw [ht]; exact hP, hD⟩, hS.F ht⟩) hS.2.2 dX3_carryOut_145
      · skip
        obtain ⟨a, hta, ha⟩ := o2i_nn (N := 8) (by decide) hT3 c35_6
        refine lv_aload_n hx hb dX3_carryOut_38 rfl (lv_at hl 0 rfl) ?_
        refine va_get (D := (dC, dI)) (ci := 3) (v := .ref (A 1)) (C := RX3) (T := TX3) (N := 9) hx hb hts hinX3 hown hK hP 0 rfl rfl 0 (by decide) (hts _ (List.mem_of_getElem? (i := 4) rfl)) (fun _ h9 => h9) rfl dX3_carryOut_39 ?_
        refine lv_aload_n hx hb dX3_carryOut_42 rfl (lv_at hl 0 rfl) ?_
        refine va_get (D := (dC, dI)) (ci := 3) (v := .ref (A 2)) (C := RX3) (T := TX3) (N := 9) hx hb hts hinX3 hown hK hP 0 rfl rfl 1 (by decide) (hts _ (List.mem_of_getElem? (i := 3) rfl)) (fun _ h9 => h9) rfl dX3_carryOut_43 ?_
        refine lv_iload_n hx hb dX3_carryOut_46 rfl (lv_at hl 1 rfl) ?_
        refine lv_iconst (v := 0) hx hb dX3_carryOut_47 (by decide) ?_
        refine vp_callSi (W.runV (As := [.int (nI k), .int (nI 0)]) (rest := [.ref (A 1)]) ⟨hx, hb, hml, hown, hts⟩ (c_X2_cell l dC dI A cI cQ ((cl, st, go, nI h0, nI m2), (ct, tc), (be, co, ap), t2, ac, nx) (i := k) (j := 0) (by omega)) (cwV 2 hts gX3_carryOut_X2_cell rfl rfl rfl (by decide +kernel) ⟨Nat.le_of_ble_eq_true rfl, Nat.le_of_ble_eq_true rfl⟩) ⟨bl_P, va_recv hK hP (ci := 2) (q0 := 2) rfl rfl, fun U hU hW => ⟨rfl, by rw [hU]; exact hP, hX.warm hW⟩⟩ rfl rfl hl.1 rfl (lv_room (Nat.le_of_ble_eq_true rfl)) dX3_carryOut_48 ⟨Nat.zero_le _, Nat.zero_le _⟩) (fun r er => ?_)
        obtain rfl : r = nI a := (er.trans hT0).trans (by rw [hta]; rfl)
        refine va_aldq hx hb hK hP 1 1 rfl rfl (vp_in_nI (show a < 8 by omega) (by decide)) dX3_carryOut_51 ?_
        rw [nI_clamp (show a < 2 ^ 31 by have := (show a < 8 by omega); omega)]
        refine lv_astore_n (lv' := [(3, .ref (A (8 + a))), (0, .ref (A 0)), (1, .int (nI k)), (2, .int (nI s2))]) hx hb dX3_carryOut_52 rfl hl (by decide) rfl (fun ls hl => ?_)
        refine lv_aload_n hx hb dX3_carryOut_53 rfl (lv_at hl 0 rfl) ?_
        refine lv_iconst (v := 1) hx hb dX3_carryOut_54 (by decide) ?_
        refine lv_iload_n hx hb dX3_carryOut_55 rfl (lv_at hl 3 rfl) ?_
        refine lv_ishl hx hb dX3_carryOut_56 ?_
        refine vp_callSi (W.runV (As := [.int (1 <<< ((nI s2) &&& 31))]) (rest := []) ⟨hx, hb, hml, hown, hts⟩ (c_X0_usable l dC dI A cI cQ ((cl, st, go, nI h0, nI m2), (ct, tc), (be, co, ap), t2, ac, nx) ha (1 <<< (nI s2 &&& 31))) (cwV 1 hts gX3_carryOut_X0_usable rfl rfl rfl (by decide +kernel) ⟨Nat.le_of_ble_eq_true rfl, Nat.le_of_ble_eq_true rfl⟩) ⟨bl_P, va_recv hK hP (ci := 0) (q0 := (8 + a)) rfl (hf_act ha), fun U hU hW => ⟨rfl, by rw [hU]; exact hP, hX.warm hW⟩⟩ rfl rfl hl.1 rfl (lv_room (Nat.le_of_ble_eq_true rfl)) dX3_carryOut_57 ⟨Nat.zero_le _, Nat.zero_le _⟩) (fun r er => ?_)
        obtain rfl : r = b2i (usS ((cl, st, go, nI h0, ma), (ct, tc), (be, co, ap), tr, ac, nx) a ((1 : Int32) <<< (nI s2 &&& 31))) := er
        refine lv_if_ne (tgt := 65) hx hb dX3_carryOut_60 (by decide) (fun c60_10 => ?_) (fun c60_10 => ?_)
        · skip
          refine lv_aload_n hx hb dX3_carryOut_65 rfl (lv_at hl 0 rfl) ?_
          refine va_getN (D := (dC, dI)) (host := RX3) (ci := 0) (v := .ref (A (16 + a))) (C := RX0) (T := TX0) (N := 5) hx hb hts hinX0 hown hK hP (8 + a) (hf_act ha) rfl 4 (by decide) (va_Nw.use rfl (hX.2.1 _ (List.mem_of_getElem? (i := 7) rfl))) (fun _ h9 => h9) rfl dX3_carryOut_66 ?_
          refine lv_iload_n hx hb dX3_carryOut_69 rfl (lv_at hl 3 rfl) ?_
          refine va_iald hx hb hK hP (16 + a) 0 (hf_nxt ha) rfl (vp_in_nI (show s2 < 16 by omega) (by decide)) dX3_carryOut_70 ?_
          rw [nI_clamp (show s2 < 2 ^ 31 by have := (show s2 < 16 by omega); omega)]
          refine lv_topi (fun y11 ey11 => ?_)
          obtain rfl : y11 = nI (y a s2) := ey11.trans ((hy1 a ha s2 hs2).1)
          refine lv_istore_n (lv' := [(2, .int (nI (y a s2))), (3, .ref (A (8 + a))), (0, .ref (A 0)), (1, .int (nI k))]) hx hb dX3_carryOut_71 rfl hl (by decide) rfl (fun ls hl => ?_)
          refine lv_aload_n hx hb dX3_carryOut_72 rfl (lv_at hl 2 rfl) ?_
          refine va_get (D := (dC, dI)) (ci := 3) (v := .ref (A 7)) (C := RX3) (T := TX3) (N := 9) hx hb hts hinX3 hown hK hP 0 rfl rfl 3 (by decide) (hts _ (List.mem_of_getElem? (i := 5) rfl)) (fun _ h9 => h9) rfl dX3_carryOut_73 ?_
          refine lv_aload_n hx hb dX3_carryOut_76 rfl (lv_at hl 2 rfl) ?_
          refine va_get (D := (dC, dI)) (ci := 3) (v := .int (nI m2)) (C := RX3) (T := TX3) (N := 9) hx hb hts hinX3 hown hK hP 0 rfl rfl 8 (by decide) (hts _ (List.mem_of_getElem? (i := 2) rfl)) (fun _ h9 => h9) rfl dX3_carryOut_77 ?_
          refine lv_iload_n hx hb dX3_carryOut_80 rfl (lv_at hl 0 rfl) ?_
          refine va_iast hx hb hK hP hD hS 7 0 rfl rfl (vp_in_nI (show m2 < 4 by omega) (by decide)) dX3_carryOut_81 (fun H locs hP hD hS => ?_)
          rw [nI_clamp (show m2 < 2 ^ 31 by have := (show m2 < 4 by omega); omega)] at hP hD
          have hP : va_P (dC, dI) vwCl (hfL A cI cQ cl st go (nI h0) (nI m2) ct tc be co ap (upd t2 m2 (nI (y a s2))) ac nx) H := hP
          have hD : va_D V (hfL A cI cQ cl st go (nI h0) (nI m2) ct tc be co ap (upd t2 m2 (nI (y a s2))) ac nx) := hD
          refine lv_aload_n hx hb dX3_carryOut_82 rfl (lv_at hl 2 rfl) ?_
          refine lv_dup hx hb dX3_carryOut_83 rfl ?_
          refine va_get (D := (dC, dI)) (ci := 3) (v := .int (nI m2)) (C := RX3) (T := TX3) (N := 9) hx hb hts hinX3 hown hK hP 0 rfl rfl 8 (by decide) (hts _ (List.mem_of_getElem? (i := 2) rfl)) (fun _ h9 => h9) rfl dX3_carryOut_84 ?_
          refine lv_iconst (v := 1) hx hb dX3_carryOut_87 (by decide) ?_
          refine lv_iadd hx hb dX3_carryOut_88 ?_
          refine lv_topi (fun y12 ey12 => ?_)
          obtain rfl : y12 = nI (m2 + 1) := ey12.trans (nI_1 m2)
          refine va_put (D := (dC, dI)) (ci := 3) (v := .int (nI (m2 + 1))) (ty := .int) (C := RX3) (T := TX3) (N := 9) hx hb hts hinX3 tyX3 tyX3_ok nmX3 hown hK hP hD hS 0 rfl rfl 8 (by decide) (hts _ (List.mem_of_getElem? (i := 2) rfl)) (fun _ h9 => h9) rfl (by decide +kernel) rfl rfl (Nat.le_of_ble_eq_true rfl) dX3_carryOut_89 (fun H locs hP hD hS => ?_)
          have hP : va_P (dC, dI) vwCl (hfL A cI cQ cl st go (nI h0) (nI (m2 + 1)) ct tc be co ap (upd t2 m2 (nI (y a s2))) ac nx) H := hP
          have hD : va_D V (hfL A cI cQ cl st go (nI h0) (nI (m2 + 1)) ct tc be co ap (upd t2 m2 (nI (y a s2))) ac nx) := hD
          refine lv_aload_n hx hb dX3_carryOut_92 rfl (lv_at hl 2 rfl) ?_
          refine va_get (D := (dC, dI)) (ci := 3) (v := .ref (A 2)) (C := RX3) (T := TX3) (N := 9) hx hb hts hinX3 hown hK hP 0 rfl rfl 1 (by decide) (hts _ (List.mem_of_getElem? (i := 3) rfl)) (fun _ h9 => h9) rfl dX3_carryOut_93 ?_
          refine lv_iload_n hx hb dX3_carryOut_96 rfl (lv_at hl 3 rfl) ?_
          refine lv_iconst (v := 1) hx hb dX3_carryOut_97 (by decide) ?_
          refine lv_aload_n hx hb dX3_carryOut_98 rfl (lv_at hl 1 rfl) ?_
          refine lv_iload_n hx hb dX3_carryOut_99 rfl (lv_at hl 0 rfl) ?_
          refine vp_callSi (W.runV (As := [.int (nI (y a s2))]) (rest := [.int 1, .int (nI k), .ref (A 2)]) ⟨hx, hb, hml, hown, hts⟩ (c_X0_sensed l dC dI A cI cQ ((cl, st, go, nI h0, nI (m2 + 1)), (ct, tc), (be, co, ap), upd t2 m2 (nI (y a s2)), ac, nx) ha (k := y a s2) (hy1 a ha s2 hs2).2) (cwV 1 hts gX3_carryOut_X0_sensed rfl rfl rfl (by decide +kernel) ⟨Nat.le_of_ble_eq_true rfl, Nat.le_of_ble_eq_true rfl⟩) ⟨bl_P, va_recv hK hP (ci := 0) (q0 := (8 + a)) rfl (hf_act ha), fun U hU hW => ⟨rfl, by rw [hU]; exact hP, hX.warm hW⟩⟩ rfl rfl hl.1 rfl (lv_room (Nat.le_of_ble_eq_true rfl)) dX3_carryOut_100 ⟨Nat.zero_le _, Nat.zero_le _⟩) (fun r er => ?_)
          obtain rfl : r = b2i (bt (ac a 2) (y a s2)) := er
          refine lv_iadd hx hb dX3_carryOut_103 ?_
          refine lv_topi (fun y13 ey13 => ?_)
          obtain rfl : y13 = nI (if bt (ac a 2) (y a s2) = true then 2 else 1) := ey13.trans (by cases bt (ac a 2) (y a s2) <;> rfl)
          have hsw : 3 * k + (if bt (ac a 2) (y a s2) = true then 2 else 1) < 93 := by split <;> omega
          refine vp_callSi (W.runV (As := [.int (nI k), .int (nI (if bt (ac a 2) (y a s2) = true then 2 else 1))]) (rest := []) ⟨hx, hb, hml, hown, hts⟩ (c_X2_cell l dC dI A cI cQ ((cl, st, go, nI h0, nI (m2 + 1)), (ct, tc), (be, co, ap), upd t2 m2 (nI (y a s2)), ac, nx) (i := k) (j := (if bt (ac a 2) (y a s2) = true then 2 else 1)) hsw) (cwV 2 hts gX3_carryOut_X2_cell rfl rfl rfl (by decide +kernel) ⟨Nat.le_of_ble_eq_true rfl, Nat.le_of_ble_eq_true rfl⟩) ⟨bl_P, va_recv hK hP (ci := 2) (q0 := 2) rfl rfl, fun U hU hW => ⟨rfl, by rw [hU]; exact hP, hX.warm hW⟩⟩ rfl rfl hl.1 rfl (lv_room (Nat.le_of_ble_eq_true rfl)) dX3_carryOut_104 ⟨Nat.zero_le _, Nat.zero_le _⟩) (fun r er => ?_)
          obtain rfl : r = o2i (if bt (ac a 2) (y a s2) = true then tq k else tp k) := er.trans (by show tc _ = _; cases bt (ac a 2) (y a s2) <;> first | exact hT1 | exact hT2)
          have ho2 : ∀ j, (if bt (ac a 2) (y a s2) = true then tq k else tp k) = some j → j < c0 := by intro j hj; cases hq : bt (ac a 2) (y a s2) <;> rw [hq] at hj <;> first | exact hT4 j hj | exact hT5 j hj
          refine lv_istore_n (lv' := [(1, .int (o2i (if bt (ac a 2) (y a s2) = true then tq k else tp k))), (2, .int (nI (y a s2))), (3, .ref (A (8 + a))), (0, .ref (A 0))]) hx hb dX3_carryOut_107 rfl hl (by decide) rfl (fun ls hl => ?_)
          refine lv_goto (tgt := 12) hx hb dX3_carryOut_108 (by decide) ?_
          exact ih ls H locs ⟨_, _, _, ho2, (hy1 a ha s2 hs2).2, by rw [← hE, show 4 - m2 = (4 - (m2 + 1)) + 1 by omega]; exact (crO_go hta (b2i_n0.mp c60_10)).symm, hP, hD, hS, lv_sub hl [3, 0, 1] rfl⟩ hlt
        · skip
          refine lv_iconst (v := 0) hx hb dX3_carryOut_63 (by decide) ?_
          have hE2 : (crO (usS ((cl, st, go, nI h0, ma), (ct, tc), (be, co, ap), tr, ac, nx)) y (snS ((cl, st, go, nI h0, ma), (ct, tc), (be, co, ap), tr, ac, nx)) go ta tp tq 4 (some 0) h0 0 tr) = (false, m2, t2) := hE.symm.trans (by rw [show 4 - m2 = (4 - (m2 + 1)) + 1 by omega]; exact crO_stop hta (b2i_0.mp c60_10))
          exact W.zret (v := 0) hx hb hr rfl (fun t ht hW => ⟨⟨_, ((cl, st, go, nI h0, nI m2), (ct, tc), (be, co, ap), t2, ac, nx), rfl, by show b2i false = b2i (crO (usS ((cl, st, go, nI h0, ma), (ct, tc), (be, co, ap), tr, ac, nx)) y (snS ((cl, st, go, nI h0, ma), (ct, tc), (be, co, ap), tr, ac, nx)) go ta tp tq 4 (some 0) h0 0 tr).1 ∧ ((cl, st, go, nI h0, nI m2), (ct, tc), (be, co, ap), t2, ac, nx) = ((cl, st, go, nI h0, nI (crO (usS ((cl, st, go, nI h0, ma), (ct, tc), (be, co, ap), tr, ac, nx)) y (snS ((cl, st, go, nI h0, ma), (ct, tc), (be, co, ap), tr, ac, nx)) go ta tp tq 4 (some 0) h0 0 tr).2.1), (ct, tc), (be, co, ap), (crO (usS ((cl, st, go, nI h0, ma), (ct, tc), (be, co, ap), tr, ac, nx)) y (snS ((cl, st, go, nI h0, ma), (ct, tc), (be, co, ap), tr, ac, nx)) go ta tp tq 4 (some 0) h0 0 tr).2.2, ac, nx); rw [hE2]; exact ⟨rfl, rfl⟩, by rw [ht]; exact hP, hD⟩, hS.F ht⟩) hS.2.2 dX3_carryOut_64
