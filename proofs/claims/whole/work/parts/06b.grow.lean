set_option maxHeartbeats 4000000 in
set_option maxRecDepth 100000 in
/-- grow(belief, 0) -/
theorem c_X3_grow0 (l : Launch) (dC : Nat → ClassId) (dI : Nat → Nat → Nat) (A : Nat → Nat) (cI cQ : ClassId) : MGrow l dC dI A cI cQ 0 := by
  intro σ sz c0 b hc hcn
  have hc31 : c0 < 31 := by have h2 : 2 ^ (0 + 1) = 2 := rfl; omega
  obtain ⟨⟨cl, st, go, hi, ma⟩, ⟨ct, tc⟩, ⟨be, co, ap⟩, tr, ac, nx⟩ := σ
  have hc : ct = nI c0 := hc
  subst hc
  refine Met.ofW (cc := cX3_grow) (maxL := 8) (ret := (some .int)) (by decide) rfl ?_
  intro p e s m args below meth c s₁ B hml hv
  obtain ⟨rfl, hsz, hP, hX, hD0⟩ := hv
  have hx := B.exec
  have hb := B.bytes
  have hr := B.returns
  have hts := atoms_spec (ws := wsX3_grow) B.pre
  have hown : s.vm.findClass RX3 = some m.cls := findClass_of_methodNamed B.named
  have hlocks := B.notSynchronized
  have hK := hX.1
  have hinX3 : ∀ w ∈ wsX30, w ∈ wsX3_grow := fun _ h => List.mem_cons_of_mem _ (List.mem_append_left _ (List.mem_append_left _ (List.mem_append_right _ h)))
  have hinX0 : ∀ w ∈ wsX00, w ∈ wsX3_grow := fun _ h => List.mem_cons_of_mem _ (List.mem_append_right _ h)
  have hinX2 : ∀ w ∈ wsX20, w ∈ wsX3_grow := fun _ h => List.mem_cons_of_mem _ (List.mem_append_left _ (List.mem_append_right _ h))
  subst hsz
  have hD := hD0.self (sz := s.heap.size)
  generalize hAe : va_A (hfW A cI cQ _) s.heap.size = V at hD ⊢
  have hA : ∀ q : Nat, s.heap.size ≤ q → V q := fun q h => by rw [← hAe]; exact Or.inr h
  have hS : va_S V s.heap s.heap [] := va_S.rf
  have hl := lv_entry ([.ref (A 0), .int b, .int (nI 0)]) (n := 8) (Nat.le_of_ble_eq_true rfl)
  rw [lg_entry_eq]
  generalize (lg_sl ([.ref (A 0), .int b, .int (nI 0)]) ++ List.replicate (8 - (lg_sl ([.ref (A 0), .int b, .int (nI 0)])).length) Slot.unset).toArray = ls at hl ⊢
  have hl : lv_has ls 8 [(0, .ref (A 0)), (1, .int b), (2, .int (nI 0))] := hl
  have hP : va_P (dC, dI) vwCl (hfL A cI cQ cl st go hi ma (nI c0) tc be co ap tr ac nx) s.heap := hP
  have hD : va_D V (hfL A cI cQ cl st go hi ma (nI c0) tc be co ap tr ac nx) := hD
  refine lv_aload_n hx hb dX3_grow_0 rfl (lv_at hl 0 rfl) ?_
  refine va_get (D := (dC, dI)) (ci := 3) (v := .ref (A 2)) (C := RX3) (T := TX3) (N := 9) hx hb hts hinX3 hown hK hP 0 rfl rfl 1 (by decide) (hts _ (List.mem_of_getElem? (i := 1) rfl)) (fun _ h9 => h9) rfl dX3_grow_1 ?_
  have hFc := hf_free (σ := ((cl, st, go, hi, ma), (nI c0, tc), (be, co, ap), tr, ac, nx)) hD hS hA
  refine va_calli (va_runV (As := []) (rest := []) ⟨hx, hb, hml, hown, hts⟩ (c_X2_open l dC dI A cI cQ ((cl, st, go, hi, ma), (nI c0, tc), (be, co, ap), tr, ac, nx) s.heap.size (k := c0) hc31 rfl) (cwV 0 hts gX3_grow_X2_open rfl rfl rfl (by decide +kernel) ⟨show 1 + 1 ≤ 3 * 0 + 5 by omega, show 8 + (1 + 11) + (22) ≤ 69 * 0 + 200 by omega⟩) ⟨bl_F, va_recv hK hP (ci := 2) (q0 := 2) rfl rfl, fun U hU hW => ⟨rfl, by rw [hU], by rw [hU]; exact hP, hX.warm hW, hf_any hD⟩⟩ rfl rfl hl.1 rfl (lv_room (Nat.le_of_ble_eq_true rfl)) dX3_grow_4 ⟨Nat.zero_le _, Nat.zero_le _⟩) hS (fun q _ h => hFc q h) hFc (fun r u t H locs ht hvm hw hB hz1 hk1 hS => ?_)
  obtain ⟨hP1, hD1⟩ := hB
  rw [ht] at hP1
  obtain ⟨rfl, rfl⟩ := hw
  have hP : va_P (dC, dI) vwCl (hfL A cI cQ cl st go hi ma (nI (c0 + 1)) (upd tc (3 * c0) (-2)) be co ap tr ac nx) H := hP1
  have hD : va_D V (hfL A cI cQ cl st go hi ma (nI (c0 + 1)) (upd tc (3 * c0) (-2)) be co ap tr ac nx) := hf_weak hD1 hFc
  clear hP1 hD1 hFc
  refine lv_istore_n (lv' := [(3, .int (nI c0)), (0, .ref (A 0)), (1, .int b), (2, .int (nI 0))]) hx hb dX3_grow_7 rfl hl (by decide) rfl (fun ls hl => ?_)
  refine lv_aload_n hx hb dX3_grow_8 rfl (lv_at hl 1 rfl) ?_
  refine lv_iload_n hx hb dX3_grow_9 rfl (lv_at hl 2 rfl) ?_
  refine vp_callSi (W.runV (As := [.int b]) (rest := []) ⟨hx, hb, hml, hown, hts⟩ (c_X3_reached l dC dI A cI cQ ((cl, st, go, hi, ma), (nI (c0 + 1), upd tc (3 * c0) (-2)), (be, co, ap), tr, ac, nx) b) (cwV 1 hts gX3_grow_X3_reached rfl rfl rfl (by decide +kernel) ⟨show 0 + 1 ≤ 3 * 0 + 5 by omega, show 8 + (2 + 11) + (0) ≤ 69 * 0 + 200 by omega⟩) ⟨bl_P, va_recv hK hP (ci := 3) (q0 := 0) rfl rfl, fun U hU hW => ⟨rfl, by rw [hU]; exact hP, hX.warm hW⟩⟩ rfl rfl hl.1 rfl (lv_room (Nat.le_of_ble_eq_true rfl)) dX3_grow_10 ⟨Nat.zero_le _, Nat.zero_le _⟩) (fun r er => ?_)
  obtain rfl : r = b2i (reS ((cl, st, go, hi, ma), (nI c0, tc), (be, co, ap), tr, ac, nx) b) := er
  refine lv_if_eq (tgt := 20) hx hb dX3_grow_13 (by decide) (fun c13_0 => ?_) (fun c13_0 => ?_)
  · skip
    refine lv_aload_n hx hb dX3_grow_20 rfl (lv_at hl 1 rfl) ?_
    refine lv_iload_n hx hb dX3_grow_21 rfl (lv_at hl 2 rfl) ?_
    refine lv_iload_n hx hb dX3_grow_22 rfl (lv_at hl 3 rfl) ?_
    refine vp_callSi (W.runV (As := [.int b, .int (nI 0)]) (rest := []) ⟨hx, hb, hml, hown, hts⟩ ((c_X3_rec l dC dI A cI cQ ((cl, st, go, hi, ma), (nI (c0 + 1), upd tc (3 * c0) (-2)), (be, co, ap), tr, ac, nx) 0 (by omega)).1 b) (cwV 2 hts gX3_grow_X3_leastAction rfl rfl rfl (by decide +kernel) ⟨show 3 * 0 + 4 + 1 ≤ 3 * 0 + 5 by omega, show 8 + (4 + 11) + (69 * 0 + 177) ≤ 69 * 0 + 200 by omega⟩) ⟨bl_P, va_recv hK hP (ci := 3) (q0 := 0) rfl rfl, fun U hU hW => ⟨rfl, by rw [hU]; exact hP, hX.warm hW⟩⟩ rfl rfl hl.1 rfl (lv_room (Nat.le_of_ble_eq_true rfl)) dX3_grow_23 ⟨Nat.zero_le _, Nat.zero_le _⟩) (fun r er => ?_)
    obtain rfl : r = o2i (leS ((cl, st, go, hi, ma), (nI c0, tc), (be, co, ap), tr, ac, nx) 0 b) := er
    refine lv_istore (lv' := [(4, .int (o2i (leS ((cl, st, go, hi, ma), (nI c0, tc), (be, co, ap), tr, ac, nx) 0 b))), (3, .int (nI c0)), (0, .ref (A 0)), (1, .int b), (2, .int (nI 0))]) hx hb dX3_grow_26 hl (by decide) rfl (fun ls hl => ?_)
    refine lv_iload hx hb dX3_grow_28 (lv_at hl 0 rfl) ?_
    refine lv_iconst (v := (-1)) hx hb dX3_grow_30 (by decide) ?_
    refine lv_icmp_ne (tgt := 46) hx hb dX3_grow_31 (by decide) (fun c31_1 => ?_) (fun c31_1 => ?_)
    · exact absurd rfl c31_1
    · skip
      refine lv_aload_n hx hb dX3_grow_34 rfl (lv_at hl 2 rfl) ?_
      refine va_get (D := (dC, dI)) (ci := 3) (v := .ref (A 2)) (C := RX3) (T := TX3) (N := 9) hx hb hts hinX3 hown hK hP 0 rfl rfl 1 (by decide) (hts _ (List.mem_of_getElem? (i := 1) rfl)) (fun _ h9 => h9) rfl dX3_grow_35 ?_
      refine lv_iload_n hx hb dX3_grow_38 rfl (lv_at hl 1 rfl) ?_
      refine lv_iconst (v := (-1)) hx hb dX3_grow_39 (by decide) ?_
      refine lv_iconst (v := (-1)) hx hb dX3_grow_40 (by decide) ?_
      refine lv_iconst (v := (-1)) hx hb dX3_grow_41 (by decide) ?_
      have hFc := hf_free (σ := ((cl, st, go, hi, ma), (nI (c0 + 1), upd tc (3 * c0) (-2)), (be, co, ap), tr, ac, nx)) hD hS hA
      refine va_calli (va_runV (As := [.int (nI c0), .int (-1), .int (-1), .int (-1)]) (rest := []) ⟨hx, hb, hml, hown, hts⟩ (c_X2_close l dC dI A cI cQ ((cl, st, go, hi, ma), (nI (c0 + 1), upd tc (3 * c0) (-2)), (be, co, ap), tr, ac, nx) H.size (n := c0) hc31 (-1) (-1) (-1)) (cwV 4 hts gX3_grow_X2_close rfl rfl rfl (by decide +kernel) ⟨show 1 + 1 ≤ 3 * 0 + 5 by omega, show 8 + (6 + 11) + (22) ≤ 69 * 0 + 200 by omega⟩) ⟨bl_F, va_recv hK hP (ci := 2) (q0 := 2) rfl rfl, fun U hU hW => ⟨rfl, by rw [hU], by rw [hU]; exact hP, hX.warm hW, hf_any hD⟩⟩ rfl rfl hl.1 rfl (lv_room (Nat.le_of_ble_eq_true rfl)) dX3_grow_42 ⟨Nat.zero_le _, Nat.zero_le _⟩) hS (fun q _ h => hFc q h) hFc (fun r u t H locs ht hvm hw hB hz1 hk1 hS => ?_)
      obtain ⟨hP1, hD1⟩ := hB
      rw [ht] at hP1
      obtain ⟨rfl, rfl⟩ := hw
      have hP : va_P (dC, dI) vwCl (hfL A cI cQ cl st go hi ma ((cloS (nI (c0 + 1)) (upd tc (3 * c0) (-2)) c0 (-1) (-1) (-1)).2.1) ((cloS (nI (c0 + 1)) (upd tc (3 * c0) (-2)) c0 (-1) (-1) (-1)).2.2) be co ap tr ac nx) H := hP1
      have hD : va_D V (hfL A cI cQ cl st go hi ma ((cloS (nI (c0 + 1)) (upd tc (3 * c0) (-2)) c0 (-1) (-1) (-1)).2.1) ((cloS (nI (c0 + 1)) (upd tc (3 * c0) (-2)) c0 (-1) (-1) (-1)).2.2) be co ap tr ac nx) := hf_weak hD1 hFc
      clear hP1 hD1 hFc
      have hgr : grS ((cl, st, go, hi, ma), (nI c0, tc), (be, co, ap), tr, ac, nx) 0 b c0 tc = cloN c0 (c0 + 1) (upd tc (3 * c0) (-2)) (-1) (-1) (-1) := grw_leaf (by rw [if_neg (by rw [b2i_0.mp c13_0]; decide)]; rfl)
      exact W.iret hx hb hr (fun t ht hW => ⟨⟨_, ((cl, st, go, hi, ma), ((cloS (nI (c0 + 1)) (upd tc (3 * c0) (-2)) c0 (-1) (-1) (-1)).2.1, (cloS (nI (c0 + 1)) (upd tc (3 * c0) (-2)) c0 (-1) (-1) (-1)).2.2), (be, co, ap), tr, ac, nx), rfl, by show (cloS (nI (c0 + 1)) (upd tc (3 * c0) (-2)) c0 (-1) (-1) (-1)).1 = (grS ((cl, st, go, hi, ma), (nI c0, tc), (be, co, ap), tr, ac, nx) 0 b c0 tc).1 ∧ ((cl, st, go, hi, ma), (cloS (nI (c0 + 1)) (upd tc (3 * c0) (-2)) c0 (-1) (-1) (-1)).2, (be, co, ap), tr, ac, nx) = ((cl, st, go, hi, ma), (nI (grS ((cl, st, go, hi, ma), (nI c0, tc), (be, co, ap), tr, ac, nx) 0 b c0 tc).2.1, (grS ((cl, st, go, hi, ma), (nI c0, tc), (be, co, ap), tr, ac, nx) 0 b c0 tc).2.2), (be, co, ap), tr, ac, nx); rw [hgr, cloS_N]; exact ⟨rfl, rfl⟩, by rw [ht]; exact hP, hD⟩, hS.F ht⟩) hS.2.2 dX3_grow_45
  · skip
    refine lv_iconst (v := (-1)) hx hb dX3_grow_16 (by decide) ?_
    refine lv_goto (tgt := 26) hx hb dX3_grow_17 (by decide) ?_
    refine lv_istore (lv' := [(4, .int (-1)), (3, .int (nI c0)), (0, .ref (A 0)), (1, .int b), (2, .int (nI 0))]) hx hb dX3_grow_26 hl (by decide) rfl (fun ls hl => ?_)
    refine lv_iload hx hb dX3_grow_28 (lv_at hl 0 rfl) ?_
    refine lv_iconst (v := (-1)) hx hb dX3_grow_30 (by decide) ?_
    refine lv_icmp_ne (tgt := 46) hx hb dX3_grow_31 (by decide) (fun c31_2 => ?_) (fun c31_2 => ?_)
    · exact absurd rfl c31_2
    · skip
      refine lv_aload_n hx hb dX3_grow_34 rfl (lv_at hl 2 rfl) ?_
      refine va_get (D := (dC, dI)) (ci := 3) (v := .ref (A 2)) (C := RX3) (T := TX3) (N := 9) hx hb hts hinX3 hown hK hP 0 rfl rfl 1 (by decide) (hts _ (List.mem_of_getElem? (i := 1) rfl)) (fun _ h9 => h9) rfl dX3_grow_35 ?_
      refine lv_iload_n hx hb dX3_grow_38 rfl (lv_at hl 1 rfl) ?_
      refine lv_iconst (v := (-1)) hx hb dX3_grow_39 (by decide) ?_
      refine lv_iconst (v := (-1)) hx hb dX3_grow_40 (by decide) ?_
      refine lv_iconst (v := (-1)) hx hb dX3_grow_41 (by decide) ?_
      have hFc := hf_free (σ := ((cl, st, go, hi, ma), (nI (c0 + 1), upd tc (3 * c0) (-2)), (be, co, ap), tr, ac, nx)) hD hS hA
      refine va_calli (va_runV (As := [.int (nI c0), .int (-1), .int (-1), .int (-1)]) (rest := []) ⟨hx, hb, hml, hown, hts⟩ (c_X2_close l dC dI A cI cQ ((cl, st, go, hi, ma), (nI (c0 + 1), upd tc (3 * c0) (-2)), (be, co, ap), tr, ac, nx) H.size (n := c0) hc31 (-1) (-1) (-1)) (cwV 4 hts gX3_grow_X2_close rfl rfl rfl (by decide +kernel) ⟨show 1 + 1 ≤ 3 * 0 + 5 by omega, show 8 + (6 + 11) + (22) ≤ 69 * 0 + 200 by omega⟩) ⟨bl_F, va_recv hK hP (ci := 2) (q0 := 2) rfl rfl, fun U hU hW => ⟨rfl, by rw [hU], by rw [hU]; exact hP, hX.warm hW, hf_any hD⟩⟩ rfl rfl hl.1 rfl (lv_room (Nat.le_of_ble_eq_true rfl)) dX3_grow_42 ⟨Nat.zero_le _, Nat.zero_le _⟩) hS (fun q _ h => hFc q h) hFc (fun r u t H locs ht hvm hw hB hz1 hk1 hS => ?_)
      obtain ⟨hP1, hD1⟩ := hB
      rw [ht] at hP1
      obtain ⟨rfl, rfl⟩ := hw
      have hP : va_P (dC, dI) vwCl (hfL A cI cQ cl st go hi ma ((cloS (nI (c0 + 1)) (upd tc (3 * c0) (-2)) c0 (-1) (-1) (-1)).2.1) ((cloS (nI (c0 + 1)) (upd tc (3 * c0) (-2)) c0 (-1) (-1) (-1)).2.2) be co ap tr ac nx) H := hP1
      have hD : va_D V (hfL A cI cQ cl st go hi ma ((cloS (nI (c0 + 1)) (upd tc (3 * c0) (-2)) c0 (-1) (-1) (-1)).2.1) ((cloS (nI (c0 + 1)) (upd tc (3 * c0) (-2)) c0 (-1) (-1) (-1)).2.2) be co ap tr ac nx) := hf_weak hD1 hFc
      clear hP1 hD1 hFc
      have hgr : grS ((cl, st, go, hi, ma), (nI c0, tc), (be, co, ap), tr, ac, nx) 0 b c0 tc = cloN c0 (c0 + 1) (upd tc (3 * c0) (-2)) (-1) (-1) (-1) := grw_leaf (by rw [if_pos (b2i_n0.mp c13_0)])
      exact W.iret hx hb hr (fun t ht hW => ⟨⟨_, ((cl, st, go, hi, ma), ((cloS (nI (c0 + 1)) (upd tc (3 * c0) (-2)) c0 (-1) (-1) (-1)).2.1, (cloS (nI (c0 + 1)) (upd tc (3 * c0) (-2)) c0 (-1) (-1) (-1)).2.2), (be, co, ap), tr, ac, nx), rfl, by show (cloS (nI (c0 + 1)) (upd tc (3 * c0) (-2)) c0 (-1) (-1) (-1)).1 = (grS ((cl, st, go, hi, ma), (nI c0, tc), (be, co, ap), tr, ac, nx) 0 b c0 tc).1 ∧ ((cl, st, go, hi, ma), (cloS (nI (c0 + 1)) (upd tc (3 * c0) (-2)) c0 (-1) (-1) (-1)).2, (be, co, ap), tr, ac, nx) = ((cl, st, go, hi, ma), (nI (grS ((cl, st, go, hi, ma), (nI c0, tc), (be, co, ap), tr, ac, nx) 0 b c0 tc).2.1, (grS ((cl, st, go, hi, ma), (nI c0, tc), (be, co, ap), tr, ac, nx) 0 b c0 tc).2.2), (be, co, ap), tr, ac, nx); rw [hgr, cloS_N]; exact ⟨rfl, rfl⟩, by rw [ht]; exact hP, hD⟩, hS.F ht⟩) hS.2.2 dX3_grow_45
set_option maxHeartbeats 4000000 in
set_option maxRecDepth 100000 in
/-- grow(belief, n + 1) out of growPart(.., n) -/
theorem c_X3_grow_of (l : Launch) (dC : Nat → ClassId) (dI : Nat → Nat → Nat) (A : Nat → Nat) (cI cQ : ClassId) (n : Nat) (hn : n < 2 ^ 20) (h : MPart l dC dI A cI cQ n) : MGrow l dC dI A cI cQ (n + 1) := by
  intro σ sz c0 b hc hcn
  have hpw : 2 ^ (n + 1 + 1) = 2 ^ (n + 1) + 2 ^ (n + 1) := by rw [Nat.pow_succ]; omega
  have hc31 : c0 < 31 := by have : 1 ≤ 2 ^ (n + 1) := Nat.one_le_two_pow; have h2 : 2 ^ (n + 1 + 1) = 2 ^ (n + 1) + 2 ^ (n + 1) := (by rw [Nat.pow_succ]; omega); omega
  obtain ⟨⟨cl, st, go, hi, ma⟩, ⟨ct, tc⟩, ⟨be, co, ap⟩, tr, ac, nx⟩ := σ
  have hc : ct = nI c0 := hc
  subst hc
  refine Met.ofW (cc := cX3_grow) (maxL := 8) (ret := (some .int)) (by decide) rfl ?_
  intro p e s m args below meth c s₁ B hml hv
  obtain ⟨rfl, hsz, hP, hX, hD0⟩ := hv
  have hx := B.exec
  have hb := B.bytes
  have hr := B.returns
  have hts := atoms_spec (ws := wsX3_grow) B.pre
  have hown : s.vm.findClass RX3 = some m.cls := findClass_of_methodNamed B.named
  have hlocks := B.notSynchronized
  have hK := hX.1
  have hinX3 : ∀ w ∈ wsX30, w ∈ wsX3_grow := fun _ h => List.mem_cons_of_mem _ (List.mem_append_left _ (List.mem_append_left _ (List.mem_append_right _ h)))
  have hinX0 : ∀ w ∈ wsX00, w ∈ wsX3_grow := fun _ h => List.mem_cons_of_mem _ (List.mem_append_right _ h)
  have hinX2 : ∀ w ∈ wsX20, w ∈ wsX3_grow := fun _ h => List.mem_cons_of_mem _ (List.mem_append_left _ (List.mem_append_right _ h))
  subst hsz
  have hD := hD0.self (sz := s.heap.size)
  generalize hAe : va_A (hfW A cI cQ _) s.heap.size = V at hD ⊢
  have hA : ∀ q : Nat, s.heap.size ≤ q → V q := fun q h => by rw [← hAe]; exact Or.inr h
  have hS : va_S V s.heap s.heap [] := va_S.rf
  have hl := lv_entry ([.ref (A 0), .int b, .int (nI (n + 1))]) (n := 8) (Nat.le_of_ble_eq_true rfl)
  rw [lg_entry_eq]
  generalize (lg_sl ([.ref (A 0), .int b, .int (nI (n + 1))]) ++ List.replicate (8 - (lg_sl ([.ref (A 0), .int b, .int (nI (n + 1))])).length) Slot.unset).toArray = ls at hl ⊢
  have hl : lv_has ls 8 [(0, .ref (A 0)), (1, .int b), (2, .int (nI (n + 1)))] := hl
  have hP : va_P (dC, dI) vwCl (hfL A cI cQ cl st go hi ma (nI c0) tc be co ap tr ac nx) s.heap := hP
  have hD : va_D V (hfL A cI cQ cl st go hi ma (nI c0) tc be co ap tr ac nx) := hD
  refine lv_aload_n hx hb dX3_grow_0 rfl (lv_at hl 0 rfl) ?_
  refine va_get (D := (dC, dI)) (ci := 3) (v := .ref (A 2)) (C := RX3) (T := TX3) (N := 9) hx hb hts hinX3 hown hK hP 0 rfl rfl 1 (by decide) (hts _ (List.mem_of_getElem? (i := 1) rfl)) (fun _ h9 => h9) rfl dX3_grow_1 ?_
  have hFc := hf_free (σ := ((cl, st, go, hi, ma), (nI c0, tc), (be, co, ap), tr, ac, nx)) hD hS hA
  refine va_calli (va_runV (As := []) (rest := []) ⟨hx, hb, hml, hown, hts⟩ (c_X2_open l dC dI A cI cQ ((cl, st, go, hi, ma), (nI c0, tc), (be, co, ap), tr, ac, nx) s.heap.size (k := c0) hc31 rfl) (cwV 0 hts gX3_grow_X2_open rfl rfl rfl (by decide +kernel) ⟨show 1 + 1 ≤ 3 * (n + 1) + 5 by omega, show 8 + (1 + 11) + (22) ≤ 69 * (n + 1) + 200 by omega⟩) ⟨bl_F, va_recv hK hP (ci := 2) (q0 := 2) rfl rfl, fun U hU hW => ⟨rfl, by rw [hU], by rw [hU]; exact hP, hX.warm hW, hf_any hD⟩⟩ rfl rfl hl.1 rfl (lv_room (Nat.le_of_ble_eq_true rfl)) dX3_grow_4 ⟨Nat.zero_le _, Nat.zero_le _⟩) hS (fun q _ h => hFc q h) hFc (fun r u t H locs ht hvm hw hB hz1 hk1 hS => ?_)
  obtain ⟨hP1, hD1⟩ := hB
  rw [ht] at hP1
  obtain ⟨rfl, rfl⟩ := hw
  have hP : va_P (dC, dI) vwCl (hfL A cI cQ cl st go hi ma (nI (c0 + 1)) (upd tc (3 * c0) (-2)) be co ap tr ac nx) H := hP1
  have hD : va_D V (hfL A cI cQ cl st go hi ma (nI (c0 + 1)) (upd tc (3 * c0) (-2)) be co ap tr ac nx) := hf_weak hD1 hFc
  clear hP1 hD1 hFc
  refine lv_istore_n (lv' := [(3, .int (nI c0)), (0, .ref (A 0)), (1, .int b), (2, .int (nI (n + 1)))]) hx hb dX3_grow_7 rfl hl (by decide) rfl (fun ls hl => ?_)
  refine lv_aload_n hx hb dX3_grow_8 rfl (lv_at hl 1 rfl) ?_
  refine lv_iload_n hx hb dX3_grow_9 rfl (lv_at hl 2 rfl) ?_
  refine vp_callSi (W.runV (As := [.int b]) (rest := []) ⟨hx, hb, hml, hown, hts⟩ (c_X3_reached l dC dI A cI cQ ((cl, st, go, hi, ma), (nI (c0 + 1), upd tc (3 * c0) (-2)), (be, co, ap), tr, ac, nx) b) (cwV 1 hts gX3_grow_X3_reached rfl rfl rfl (by decide +kernel) ⟨show 0 + 1 ≤ 3 * (n + 1) + 5 by omega, show 8 + (2 + 11) + (0) ≤ 69 * (n + 1) + 200 by omega⟩) ⟨bl_P, va_recv hK hP (ci := 3) (q0 := 0) rfl rfl, fun U hU hW => ⟨rfl, by rw [hU]; exact hP, hX.warm hW⟩⟩ rfl rfl hl.1 rfl (lv_room (Nat.le_of_ble_eq_true rfl)) dX3_grow_10 ⟨Nat.zero_le _, Nat.zero_le _⟩) (fun r er => ?_)
  obtain rfl : r = b2i (reS ((cl, st, go, hi, ma), (nI c0, tc), (be, co, ap), tr, ac, nx) b) := er
  refine lv_if_eq (tgt := 20) hx hb dX3_grow_13 (by decide) (fun c13_0 => ?_) (fun c13_0 => ?_)
  · skip
    refine lv_aload_n hx hb dX3_grow_20 rfl (lv_at hl 1 rfl) ?_
    refine lv_iload_n hx hb dX3_grow_21 rfl (lv_at hl 2 rfl) ?_
    refine lv_iload_n hx hb dX3_grow_22 rfl (lv_at hl 3 rfl) ?_
    refine vp_callSi (W.runV (As := [.int b, .int (nI (n + 1))]) (rest := []) ⟨hx, hb, hml, hown, hts⟩ ((c_X3_rec l dC dI A cI cQ ((cl, st, go, hi, ma), (nI (c0 + 1), upd tc (3 * c0) (-2)), (be, co, ap), tr, ac, nx) (n + 1) (by omega)).1 b) (cwV 2 hts gX3_grow_X3_leastAction rfl rfl rfl (by decide +kernel) ⟨show 3 * (n + 1) + 4 + 1 ≤ 3 * (n + 1) + 5 by omega, show 8 + (4 + 11) + (69 * (n + 1) + 177) ≤ 69 * (n + 1) + 200 by omega⟩) ⟨bl_P, va_recv hK hP (ci := 3) (q0 := 0) rfl rfl, fun U hU hW => ⟨rfl, by rw [hU]; exact hP, hX.warm hW⟩⟩ rfl rfl hl.1 rfl (lv_room (Nat.le_of_ble_eq_true rfl)) dX3_grow_23 ⟨Nat.zero_le _, Nat.zero_le _⟩) (fun r er => ?_)
    obtain rfl : r = o2i (leS ((cl, st, go, hi, ma), (nI c0, tc), (be, co, ap), tr, ac, nx) (n + 1) b) := er
    refine lv_istore (lv' := [(4, .int (o2i (leS ((cl, st, go, hi, ma), (nI c0, tc), (be, co, ap), tr, ac, nx) (n + 1) b))), (3, .int (nI c0)), (0, .ref (A 0)), (1, .int b), (2, .int (nI (n + 1)))]) hx hb dX3_grow_26 hl (by decide) rfl (fun ls hl => ?_)
    refine lv_iload hx hb dX3_grow_28 (lv_at hl 0 rfl) ?_
    refine lv_iconst (v := (-1)) hx hb dX3_grow_30 (by decide) ?_
    refine lv_icmp_ne (tgt := 46) hx hb dX3_grow_31 (by decide) (fun c31_1 => ?_) (fun c31_1 => ?_)
    · skip
      obtain ⟨a, hle⟩ : ∃ a, leS ((cl, st, go, hi, ma), (nI c0, tc), (be, co, ap), tr, ac, nx) (n + 1) b = some a := by cases hq : leS ((cl, st, go, hi, ma), (nI c0, tc), (be, co, ap), tr, ac, nx) (n + 1) b with | none => exact absurd (by rw [hq]; rfl) c31_1 | some z => exact ⟨z, rfl⟩
      have ha : a < 8 := lea_lt hle
      have hl : lv_has ls 8 [(4, .int (nI a)), (3, .int (nI c0)), (0, .ref (A 0)), (1, .int b), (2, .int (nI (n + 1)))] := by rw [show nI a = o2i (leS ((cl, st, go, hi, ma), (nI c0, tc), (be, co, ap), tr, ac, nx) (n + 1) b) by rw [hle]; rfl]; exact hl
      refine lv_aload_n hx hb dX3_grow_46 rfl (lv_at hl 2 rfl) ?_
      refine va_get (D := (dC, dI)) (ci := 3) (v := .ref (A 1)) (C := RX3) (T := TX3) (N := 9) hx hb hts hinX3 hown hK hP 0 rfl rfl 0 (by decide) (hts _ (List.mem_of_getElem? (i := 2) rfl)) (fun _ h9 => h9) rfl dX3_grow_47 ?_
      refine lv_iload hx hb dX3_grow_50 (lv_at hl 0 rfl) ?_
      refine va_aldq hx hb hK hP 1 1 rfl rfl (vp_in_nI (show a < 8 by omega) (by decide)) dX3_grow_52 ?_
      rw [nI_clamp (show a < 2 ^ 31 by have := (show a < 8 by omega); omega)]
      refine lv_iload_n hx hb dX3_grow_53 rfl (lv_at hl 3 rfl) ?_
      refine vp_callSi (W.runV (As := [.int b]) (rest := []) ⟨hx, hb, hml, hown, hts⟩ (c_X0_after l dC dI A cI cQ ((cl, st, go, hi, ma), (nI (c0 + 1), upd tc (3 * c0) (-2)), (be, co, ap), tr, ac, nx) ha b) (cwV 1 hts gX3_grow_X0_after rfl rfl rfl (by decide +kernel) ⟨show 1 + 1 ≤ 3 * (n + 1) + 5 by omega, show 8 + (4 + 11) + (21) ≤ 69 * (n + 1) + 200 by omega⟩) ⟨bl_P, va_recv hK hP (ci := 0) (q0 := (8 + a)) rfl (hf_act ha), fun U hU hW => ⟨rfl, by rw [hU]; exact hP, hX.warm hW⟩⟩ rfl rfl hl.1 rfl (lv_room (Nat.le_of_ble_eq_true rfl)) dX3_grow_54 ⟨Nat.zero_le _, Nat.zero_le _⟩) (fun r er => ?_)
      obtain rfl : r = afS ((cl, st, go, hi, ma), (nI c0, tc), (be, co, ap), tr, ac, nx) a b := er
      refine lv_istore (lv' := [(5, .int (afS ((cl, st, go, hi, ma), (nI c0, tc), (be, co, ap), tr, ac, nx) a b)), (4, .int (nI a)), (3, .int (nI c0)), (0, .ref (A 0)), (1, .int b), (2, .int (nI (n + 1)))]) hx hb dX3_grow_57 hl (by decide) rfl (fun ls hl => ?_)
      refine lv_aload_n hx hb dX3_grow_59 rfl (lv_at hl 3 rfl) ?_
      refine lv_aload_n hx hb dX3_grow_60 rfl (lv_at hl 3 rfl) ?_
      refine va_get (D := (dC, dI)) (ci := 3) (v := .ref (A 1)) (C := RX3) (T := TX3) (N := 9) hx hb hts hinX3 hown hK hP 0 rfl rfl 0 (by decide) (hts _ (List.mem_of_getElem? (i := 2) rfl)) (fun _ h9 => h9) rfl dX3_grow_61 ?_
      refine lv_iload hx hb dX3_grow_64 (lv_at hl 1 rfl) ?_
      refine va_aldq hx hb hK hP 1 1 rfl rfl (vp_in_nI (show a < 8 by omega) (by decide)) dX3_grow_66 ?_
      rw [nI_clamp (show a < 2 ^ 31 by have := (show a < 8 by omega); omega)]
      refine lv_iload hx hb dX3_grow_67 (lv_at hl 0 rfl) ?_
      refine lv_iconst (v := 0) hx hb dX3_grow_69 (by decide) ?_
      refine vp_callSi (W.runV (As := [.int (afS ((cl, st, go, hi, ma), (nI c0, tc), (be, co, ap), tr, ac, nx) a b), .int 0]) (rest := [.ref (A 0)]) ⟨hx, hb, hml, hown, hts⟩ (c_X0_part l dC dI A cI cQ ((cl, st, go, hi, ma), (nI (c0 + 1), upd tc (3 * c0) (-2)), (be, co, ap), tr, ac, nx) ha (afS ((cl, st, go, hi, ma), (nI c0, tc), (be, co, ap), tr, ac, nx) a b) 0) (cwV 2 hts gX3_grow_X0_part rfl rfl rfl (by decide +kernel) ⟨show 0 + 1 ≤ 3 * (n + 1) + 5 by omega, show 8 + (3 + 11) + (0) ≤ 69 * (n + 1) + 200 by omega⟩) ⟨bl_P, va_recv hK hP (ci := 0) (q0 := (8 + a)) rfl (hf_act ha), fun U hU hW => ⟨rfl, by rw [hU]; exact hP, hX.warm hW⟩⟩ rfl rfl hl.1 rfl (lv_room (Nat.le_of_ble_eq_true rfl)) dX3_grow_70 ⟨Nat.zero_le _, Nat.zero_le _⟩) (fun r er => ?_)
      obtain rfl : r = ptS ((cl, st, go, hi, ma), (nI c0, tc), (be, co, ap), tr, ac, nx) a b 0 := er
      refine lv_iload_n hx hb dX3_grow_73 rfl (lv_at hl 5 rfl) ?_
      refine lv_iconst (v := 1) hx hb dX3_grow_74 (by decide) ?_
      refine lv_isub hx hb dX3_grow_75 ?_
      refine lv_topi (fun y2 ey2 => ?_)
      obtain rfl : y2 = nI n := ey2.trans (nI_pred n)
      have hFc := hf_free (σ := ((cl, st, go, hi, ma), (nI (c0 + 1), upd tc (3 * c0) (-2)), (be, co, ap), tr, ac, nx)) hD hS hA
      refine va_calli (va_runV (As := [.int (ptS ((cl, st, go, hi, ma), (nI c0, tc), (be, co, ap), tr, ac, nx) a b 0), .int (nI n)]) (rest := []) ⟨hx, hb, hml, hown, hts⟩ (h ((cl, st, go, hi, ma), (nI (c0 + 1), upd tc (3 * c0) (-2)), (be, co, ap), tr, ac, nx) H.size (c0 + 1) (ptS ((cl, st, go, hi, ma), (nI c0, tc), (be, co, ap), tr, ac, nx) a b 0) rfl (by omega)) (cwV 2 hts gX3_grow_X3_growPart rfl rfl rfl (by decide +kernel) ⟨show 3 * n + 6 + 1 ≤ 3 * (n + 1) + 5 by omega, show 8 + (3 + 11) + (69 * n + 227) ≤ 69 * (n + 1) + 200 by omega⟩) ⟨bl_F, va_recv hK hP (ci := 3) (q0 := 0) rfl rfl, fun U hU hW => ⟨rfl, by rw [hU], by rw [hU]; exact hP, hX.warm hW, hf_any hD⟩⟩ rfl rfl hl.1 rfl (lv_room (Nat.le_of_ble_eq_true rfl)) dX3_grow_76 ⟨Nat.zero_le _, Nat.zero_le _⟩) hS (fun q _ h => hFc q h) hFc (fun rA u t H locs ht hvm hw hB hz1 hk1 hS => ?_)
      obtain ⟨hP1, hD1⟩ := hB
      rw [ht] at hP1
      obtain ⟨⟨zA, cA, tA⟩, hq0⟩ : ∃ q, grPS ((cl, st, go, hi, ma), (nI c0, tc), (be, co, ap), tr, ac, nx) n (ptS ((cl, st, go, hi, ma), (nI c0, tc), (be, co, ap), tr, ac, nx) a b 0) (c0 + 1) (upd tc (3 * c0) (-2)) = q := ⟨_, rfl⟩
      have hcn0 : (grPS ((cl, st, go, hi, ma), (nI c0, tc), (be, co, ap), tr, ac, nx) n (ptS ((cl, st, go, hi, ma), (nI c0, tc), (be, co, ap), tr, ac, nx) a b 0) (c0 + 1) (upd tc (3 * c0) (-2))).2.1 + 1 ≤ (c0 + 1) + 2 ^ (n + 1) := grwP_cnt n (ptS ((cl, st, go, hi, ma), (nI c0, tc), (be, co, ap), tr, ac, nx) a b 0) (c0 + 1) (upd tc (3 * c0) (-2))
      rw [hq0] at hcn0
      have hcn0 : cA + 1 ≤ (c0 + 1) + 2 ^ (n + 1) := hcn0
      have hw : rA = (grPS ((cl, st, go, hi, ma), (nI c0, tc), (be, co, ap), tr, ac, nx) n (ptS ((cl, st, go, hi, ma), (nI c0, tc), (be, co, ap), tr, ac, nx) a b 0) (c0 + 1) (upd tc (3 * c0) (-2))).1 ∧ u = ((cl, st, go, hi, ma), (nI (grPS ((cl, st, go, hi, ma), (nI c0, tc), (be, co, ap), tr, ac, nx) n (ptS ((cl, st, go, hi, ma), (nI c0, tc), (be, co, ap), tr, ac, nx) a b 0) (c0 + 1) (upd tc (3 * c0) (-2))).2.1, (grPS ((cl, st, go, hi, ma), (nI c0, tc), (be, co, ap), tr, ac, nx) n (ptS ((cl, st, go, hi, ma), (nI c0, tc), (be, co, ap), tr, ac, nx) a b 0) (c0 + 1) (upd tc (3 * c0) (-2))).2.2), (be, co, ap), tr, ac, nx) := hw
      rw [hq0] at hw
      obtain ⟨rfl, rfl⟩ := hw
      have hP : va_P (dC, dI) vwCl (hfL A cI cQ cl st go hi ma (nI cA) tA be co ap tr ac nx) H := hP1
      have hD : va_D V (hfL A cI cQ cl st go hi ma (nI cA) tA be co ap tr ac nx) := hf_weak hD1 hFc
      clear hP1 hD1 hFc
      refine lv_istore (lv' := [(6, .int rA), (5, .int (afS ((cl, st, go, hi, ma), (nI c0, tc), (be, co, ap), tr, ac, nx) a b)), (4, .int (nI a)), (3, .int (nI c0)), (0, .ref (A 0)), (1, .int b), (2, .int (nI (n + 1)))]) hx hb dX3_grow_79 hl (by decide) rfl (fun ls hl => ?_)
      refine lv_aload_n hx hb dX3_grow_81 rfl (lv_at hl 4 rfl) ?_
      refine lv_aload_n hx hb dX3_grow_82 rfl (lv_at hl 4 rfl) ?_
      refine va_get (D := (dC, dI)) (ci := 3) (v := .ref (A 1)) (C := RX3) (T := TX3) (N := 9) hx hb hts hinX3 hown hK hP 0 rfl rfl 0 (by decide) (hts _ (List.mem_of_getElem? (i := 2) rfl)) (fun _ h9 => h9) rfl dX3_grow_83 ?_
      refine lv_iload hx hb dX3_grow_86 (lv_at hl 2 rfl) ?_
      refine va_aldq hx hb hK hP 1 1 rfl rfl (vp_in_nI (show a < 8 by omega) (by decide)) dX3_grow_88 ?_
      rw [nI_clamp (show a < 2 ^ 31 by have := (show a < 8 by omega); omega)]
      refine lv_iload hx hb dX3_grow_89 (lv_at hl 1 rfl) ?_
      refine lv_iconst (v := 1) hx hb dX3_grow_91 (by decide) ?_
      refine vp_callSi (W.runV (As := [.int (afS ((cl, st, go, hi, ma), (nI c0, tc), (be, co, ap), tr, ac, nx) a b), .int 1]) (rest := [.ref (A 0)]) ⟨hx, hb, hml, hown, hts⟩ (c_X0_part l dC dI A cI cQ ((cl, st, go, hi, ma), (nI cA, tA), (be, co, ap), tr, ac, nx) ha (afS ((cl, st, go, hi, ma), (nI c0, tc), (be, co, ap), tr, ac, nx) a b) 1) (cwV 2 hts gX3_grow_X0_part rfl rfl rfl (by decide +kernel) ⟨show 0 + 1 ≤ 3 * (n + 1) + 5 by omega, show 8 + (3 + 11) + (0) ≤ 69 * (n + 1) + 200 by omega⟩) ⟨bl_P, va_recv hK hP (ci := 0) (q0 := (8 + a)) rfl (hf_act ha), fun U hU hW => ⟨rfl, by rw [hU]; exact hP, hX.warm hW⟩⟩ rfl rfl hl.1 rfl (lv_room (Nat.le_of_ble_eq_true rfl)) dX3_grow_92 ⟨Nat.zero_le _, Nat.zero_le _⟩) (fun r er => ?_)
      obtain rfl : r = ptS ((cl, st, go, hi, ma), (nI c0, tc), (be, co, ap), tr, ac, nx) a b 1 := er
      refine lv_iload_n hx hb dX3_grow_95 rfl (lv_at hl 6 rfl) ?_
      refine lv_iconst (v := 1) hx hb dX3_grow_96 (by decide) ?_
      refine lv_isub hx hb dX3_grow_97 ?_
      refine lv_topi (fun y3 ey3 => ?_)
      obtain rfl : y3 = nI n := ey3.trans (nI_pred n)
      have hFc := hf_free (σ := ((cl, st, go, hi, ma), (nI cA, tA), (be, co, ap), tr, ac, nx)) hD hS hA
      refine va_calli (va_runV (As := [.int (ptS ((cl, st, go, hi, ma), (nI c0, tc), (be, co, ap), tr, ac, nx) a b 1), .int (nI n)]) (rest := []) ⟨hx, hb, hml, hown, hts⟩ (h ((cl, st, go, hi, ma), (nI cA, tA), (be, co, ap), tr, ac, nx) H.size cA (ptS ((cl, st, go, hi, ma), (nI c0, tc), (be, co, ap), tr, ac, nx) a b 1) rfl (by omega)) (cwV 2 hts gX3_grow_X3_growPart rfl rfl rfl (by decide +kernel) ⟨show 3 * n + 6 + 1 ≤ 3 * (n + 1) + 5 by omega, show 8 + (3 + 11) + (69 * n + 227) ≤ 69 * (n + 1) + 200 by omega⟩) ⟨bl_F, va_recv hK hP (ci := 3) (q0 := 0) rfl rfl, fun U hU hW => ⟨rfl, by rw [hU], by rw [hU]; exact hP, hX.warm hW, hf_any hD⟩⟩ rfl rfl hl.1 rfl (lv_room (Nat.le_of_ble_eq_true rfl)) dX3_grow_98 ⟨Nat.zero_le _, Nat.zero_le _⟩) hS (fun q _ h => hFc q h) hFc (fun rB u t H locs ht hvm hw hB hz1 hk1 hS => ?_)
      obtain ⟨hP1, hD1⟩ := hB
      rw [ht] at hP1
      obtain ⟨⟨zB, cB, tB⟩, hq1⟩ : ∃ q, grPS ((cl, st, go, hi, ma), (nI c0, tc), (be, co, ap), tr, ac, nx) n (ptS ((cl, st, go, hi, ma), (nI c0, tc), (be, co, ap), tr, ac, nx) a b 1) cA tA = q := ⟨_, rfl⟩
      have hcn1 : (grPS ((cl, st, go, hi, ma), (nI c0, tc), (be, co, ap), tr, ac, nx) n (ptS ((cl, st, go, hi, ma), (nI c0, tc), (be, co, ap), tr, ac, nx) a b 1) cA tA).2.1 + 1 ≤ cA + 2 ^ (n + 1) := grwP_cnt n (ptS ((cl, st, go, hi, ma), (nI c0, tc), (be, co, ap), tr, ac, nx) a b 1) cA tA
      rw [hq1] at hcn1
      have hcn1 : cB + 1 ≤ cA + 2 ^ (n + 1) := hcn1
      have hw : rB = (grPS ((cl, st, go, hi, ma), (nI c0, tc), (be, co, ap), tr, ac, nx) n (ptS ((cl, st, go, hi, ma), (nI c0, tc), (be, co, ap), tr, ac, nx) a b 1) cA tA).1 ∧ u = ((cl, st, go, hi, ma), (nI (grPS ((cl, st, go, hi, ma), (nI c0, tc), (be, co, ap), tr, ac, nx) n (ptS ((cl, st, go, hi, ma), (nI c0, tc), (be, co, ap), tr, ac, nx) a b 1) cA tA).2.1, (grPS ((cl, st, go, hi, ma), (nI c0, tc), (be, co, ap), tr, ac, nx) n (ptS ((cl, st, go, hi, ma), (nI c0, tc), (be, co, ap), tr, ac, nx) a b 1) cA tA).2.2), (be, co, ap), tr, ac, nx) := hw
      rw [hq1] at hw
      obtain ⟨rfl, rfl⟩ := hw
      have hP : va_P (dC, dI) vwCl (hfL A cI cQ cl st go hi ma (nI cB) tB be co ap tr ac nx) H := hP1
      have hD : va_D V (hfL A cI cQ cl st go hi ma (nI cB) tB be co ap tr ac nx) := hf_weak hD1 hFc
      clear hP1 hD1 hFc
      refine lv_istore (lv' := [(7, .int rB), (6, .int rA), (5, .int (afS ((cl, st, go, hi, ma), (nI c0, tc), (be, co, ap), tr, ac, nx) a b)), (4, .int (nI a)), (3, .int (nI c0)), (0, .ref (A 0)), (1, .int b), (2, .int (nI (n + 1)))]) hx hb dX3_grow_101 hl (by decide) rfl (fun ls hl => ?_)
      refine lv_aload_n hx hb dX3_grow_103 rfl (lv_at hl 5 rfl) ?_
      refine va_get (D := (dC, dI)) (ci := 3) (v := .ref (A 2)) (C := RX3) (T := TX3) (N := 9) hx hb hts hinX3 hown hK hP 0 rfl rfl 1 (by decide) (hts _ (List.mem_of_getElem? (i := 1) rfl)) (fun _ h9 => h9) rfl dX3_grow_104 ?_
      refine lv_iload_n hx hb dX3_grow_107 rfl (lv_at hl 4 rfl) ?_
      refine lv_iload hx hb dX3_grow_108 (lv_at hl 3 rfl) ?_
      refine lv_iload hx hb dX3_grow_110 (lv_at hl 1 rfl) ?_
      refine lv_iload hx hb dX3_grow_112 (lv_at hl 0 rfl) ?_
      have hFc := hf_free (σ := ((cl, st, go, hi, ma), (nI cB, tB), (be, co, ap), tr, ac, nx)) hD hS hA
      refine va_calli (va_runV (As := [.int (nI c0), .int (nI a), .int rA, .int rB]) (rest := []) ⟨hx, hb, hml, hown, hts⟩ (c_X2_close l dC dI A cI cQ ((cl, st, go, hi, ma), (nI cB, tB), (be, co, ap), tr, ac, nx) H.size (n := c0) hc31 (nI a) rA rB) (cwV 4 hts gX3_grow_X2_close rfl rfl rfl (by decide +kernel) ⟨show 1 + 1 ≤ 3 * (n + 1) + 5 by omega, show 8 + (6 + 11) + (22) ≤ 69 * (n + 1) + 200 by omega⟩) ⟨bl_F, va_recv hK hP (ci := 2) (q0 := 2) rfl rfl, fun U hU hW => ⟨rfl, by rw [hU], by rw [hU]; exact hP, hX.warm hW, hf_any hD⟩⟩ rfl rfl hl.1 rfl (lv_room (Nat.le_of_ble_eq_true rfl)) dX3_grow_114 ⟨Nat.zero_le _, Nat.zero_le _⟩) hS (fun q _ h => hFc q h) hFc (fun r u t H locs ht hvm hw hB hz1 hk1 hS => ?_)
      obtain ⟨hP1, hD1⟩ := hB
      rw [ht] at hP1
      obtain ⟨rfl, rfl⟩ := hw
      have hP : va_P (dC, dI) vwCl (hfL A cI cQ cl st go hi ma ((cloS (nI cB) tB c0 (nI a) rA rB).2.1) ((cloS (nI cB) tB c0 (nI a) rA rB).2.2) be co ap tr ac nx) H := hP1
      have hD : va_D V (hfL A cI cQ cl st go hi ma ((cloS (nI cB) tB c0 (nI a) rA rB).2.1) ((cloS (nI cB) tB c0 (nI a) rA rB).2.2) be co ap tr ac nx) := hf_weak hD1 hFc
      clear hP1 hD1 hFc
      have hgr : grS ((cl, st, go, hi, ma), (nI c0, tc), (be, co, ap), tr, ac, nx) (n + 1) b c0 tc = cloN c0 cB tB (nI a) rA rB := grw_node (b2i_0.mp c13_0) hle hq0 hq1
      exact W.iret hx hb hr (fun t ht hW => ⟨⟨_, ((cl, st, go, hi, ma), ((cloS (nI cB) tB c0 (nI a) rA rB).2.1, (cloS (nI cB) tB c0 (nI a) rA rB).2.2), (be, co, ap), tr, ac, nx), rfl, by show (cloS (nI cB) tB c0 (nI a) rA rB).1 = (grS ((cl, st, go, hi, ma), (nI c0, tc), (be, co, ap), tr, ac, nx) (n + 1) b c0 tc).1 ∧ ((cl, st, go, hi, ma), (cloS (nI cB) tB c0 (nI a) rA rB).2, (be, co, ap), tr, ac, nx) = ((cl, st, go, hi, ma), (nI (grS ((cl, st, go, hi, ma), (nI c0, tc), (be, co, ap), tr, ac, nx) (n + 1) b c0 tc).2.1, (grS ((cl, st, go, hi, ma), (nI c0, tc), (be, co, ap), tr, ac, nx) (n + 1) b c0 tc).2.2), (be, co, ap), tr, ac, nx); rw [hgr, cloS_N]; exact ⟨rfl, rfl⟩, by rw [ht]; exact hP, hD⟩, hS.F ht⟩) hS.2.2 dX3_grow_117
    · skip
      refine lv_aload_n hx hb dX3_grow_34 rfl (lv_at hl 2 rfl) ?_
      refine va_get (D := (dC, dI)) (ci := 3) (v := .ref (A 2)) (C := RX3) (T := TX3) (N := 9) hx hb hts hinX3 hown hK hP 0 rfl rfl 1 (by decide) (hts _ (List.mem_of_getElem? (i := 1) rfl)) (fun _ h9 => h9) rfl dX3_grow_35 ?_
      refine lv_iload_n hx hb dX3_grow_38 rfl (lv_at hl 1 rfl) ?_
      refine lv_iconst (v := (-1)) hx hb dX3_grow_39 (by decide) ?_
      refine lv_iconst (v := (-1)) hx hb dX3_grow_40 (by decide) ?_
      refine lv_iconst (v := (-1)) hx hb dX3_grow_41 (by decide) ?_
      have hFc := hf_free (σ := ((cl, st, go, hi, ma), (nI (c0 + 1), upd tc (3 * c0) (-2)), (be, co, ap), tr, ac, nx)) hD hS hA
      refine va_calli (va_runV (As := [.int (nI c0), .int (-1), .int (-1), .int (-1)]) (rest := []) ⟨hx, hb, hml, hown, hts⟩ (c_X2_close l dC dI A cI cQ ((cl, st, go, hi, ma), (nI (c0 + 1), upd tc (3 * c0) (-2)), (be, co, ap), tr, ac, nx) H.size (n := c0) hc31 (-1) (-1) (-1)) (cwV 4 hts gX3_grow_X2_close rfl rfl rfl (by decide +kernel) ⟨show 1 + 1 ≤ 3 * (n + 1) + 5 by omega, show 8 + (6 + 11) + (22) ≤ 69 * (n + 1) + 200 by omega⟩) ⟨bl_F, va_recv hK hP (ci := 2) (q0 := 2) rfl rfl, fun U hU hW => ⟨rfl, by rw [hU], by rw [hU]; exact hP, hX.warm hW, hf_any hD⟩⟩ rfl rfl hl.1 rfl (lv_room (Nat.le_of_ble_eq_true rfl)) dX3_grow_42 ⟨Nat.zero_le _, Nat.zero_le _⟩) hS (fun q _ h => hFc q h) hFc (fun r u t H locs ht hvm hw hB hz1 hk1 hS => ?_)
      obtain ⟨hP1, hD1⟩ := hB
      rw [ht] at hP1
      obtain ⟨rfl, rfl⟩ := hw
      have hP : va_P (dC, dI) vwCl (hfL A cI cQ cl st go hi ma ((cloS (nI (c0 + 1)) (upd tc (3 * c0) (-2)) c0 (-1) (-1) (-1)).2.1) ((cloS (nI (c0 + 1)) (upd tc (3 * c0) (-2)) c0 (-1) (-1) (-1)).2.2) be co ap tr ac nx) H := hP1
      have hD : va_D V (hfL A cI cQ cl st go hi ma ((cloS (nI (c0 + 1)) (upd tc (3 * c0) (-2)) c0 (-1) (-1) (-1)).2.1) ((cloS (nI (c0 + 1)) (upd tc (3 * c0) (-2)) c0 (-1) (-1) (-1)).2.2) be co ap tr ac nx) := hf_weak hD1 hFc
      clear hP1 hD1 hFc
      have hgr : grS ((cl, st, go, hi, ma), (nI c0, tc), (be, co, ap), tr, ac, nx) (n + 1) b c0 tc = cloN c0 (c0 + 1) (upd tc (3 * c0) (-2)) (-1) (-1) (-1) := grw_leaf (by rw [if_neg (by rw [b2i_0.mp c13_0]; decide)]; exact leS_none.mp c31_1)
      exact W.iret hx hb hr (fun t ht hW => ⟨⟨_, ((cl, st, go, hi, ma), ((cloS (nI (c0 + 1)) (upd tc (3 * c0) (-2)) c0 (-1) (-1) (-1)).2.1, (cloS (nI (c0 + 1)) (upd tc (3 * c0) (-2)) c0 (-1) (-1) (-1)).2.2), (be, co, ap), tr, ac, nx), rfl, by show (cloS (nI (c0 + 1)) (upd tc (3 * c0) (-2)) c0 (-1) (-1) (-1)).1 = (grS ((cl, st, go, hi, ma), (nI c0, tc), (be, co, ap), tr, ac, nx) (n + 1) b c0 tc).1 ∧ ((cl, st, go, hi, ma), (cloS (nI (c0 + 1)) (upd tc (3 * c0) (-2)) c0 (-1) (-1) (-1)).2, (be, co, ap), tr, ac, nx) = ((cl, st, go, hi, ma), (nI (grS ((cl, st, go, hi, ma), (nI c0, tc), (be, co, ap), tr, ac, nx) (n + 1) b c0 tc).2.1, (grS ((cl, st, go, hi, ma), (nI c0, tc), (be, co, ap), tr, ac, nx) (n + 1) b c0 tc).2.2), (be, co, ap), tr, ac, nx); rw [hgr, cloS_N]; exact ⟨rfl, rfl⟩, by rw [ht]; exact hP, hD⟩, hS.F ht⟩) hS.2.2 dX3_grow_45
  · skip
    refine lv_iconst (v := (-1)) hx hb dX3_grow_16 (by decide) ?_
    refine lv_goto (tgt := 26) hx hb dX3_grow_17 (by decide) ?_
    refine lv_istore (lv' := [(4, .int (-1)), (3, .int (nI c0)), (0, .ref (A 0)), (1, .int b), (2, .int (nI (n + 1)))]) hx hb dX3_grow_26 hl (by decide) rfl (fun ls hl => ?_)
    refine lv_iload hx hb dX3_grow_28 (lv_at hl 0 rfl) ?_
    refine lv_iconst (v := (-1)) hx hb dX3_grow_30 (by decide) ?_
    refine lv_icmp_ne (tgt := 46) hx hb dX3_grow_31 (by decide) (fun c31_4 => ?_) (fun c31_4 => ?_)
    · exact absurd rfl c31_4
    · skip
      refine lv_aload_n hx hb dX3_grow_34 rfl (lv_at hl 2 rfl) ?_
      refine va_get (D := (dC, dI)) (ci := 3) (v := .ref (A 2)) (C := RX3) (T := TX3) (N := 9) hx hb hts hinX3 hown hK hP 0 rfl rfl 1 (by decide) (hts _ (List.mem_of_getElem? (i := 1) rfl)) (fun _ h9 => h9) rfl dX3_grow_35 ?_
      refine lv_iload_n hx hb dX3_grow_38 rfl (lv_at hl 1 rfl) ?_
      refine lv_iconst (v := (-1)) hx hb dX3_grow_39 (by decide) ?_
      refine lv_iconst (v := (-1)) hx hb dX3_grow_40 (by decide) ?_
      refine lv_iconst (v := (-1)) hx hb dX3_grow_41 (by decide) ?_
      have hFc := hf_free (σ := ((cl, st, go, hi, ma), (nI (c0 + 1), upd tc (3 * c0) (-2)), (be, co, ap), tr, ac, nx)) hD hS hA
      refine va_calli (va_runV (As := [.int (nI c0), .int (-1), .int (-1), .int (-1)]) (rest := []) ⟨hx, hb, hml, hown, hts⟩ (c_X2_close l dC dI A cI cQ ((cl, st, go, hi, ma), (nI (c0 + 1), upd tc (3 * c0) (-2)), (be, co, ap), tr, ac, nx) H.size (n := c0) hc31 (-1) (-1) (-1)) (cwV 4 hts gX3_grow_X2_close rfl rfl rfl (by decide +kernel) ⟨show 1 + 1 ≤ 3 * (n + 1) + 5 by omega, show 8 + (6 + 11) + (22) ≤ 69 * (n + 1) + 200 by omega⟩) ⟨bl_F, va_recv hK hP (ci := 2) (q0 := 2) rfl rfl, fun U hU hW => ⟨rfl, by rw [hU], by rw [hU]; exact hP, hX.warm hW, hf_any hD⟩⟩ rfl rfl hl.1 rfl (lv_room (Nat.le_of_ble_eq_true rfl)) dX3_grow_42 ⟨Nat.zero_le _, Nat.zero_le _⟩) hS (fun q _ h => hFc q h) hFc (fun r u t H locs ht hvm hw hB hz1 hk1 hS => ?_)
      obtain ⟨hP1, hD1⟩ := hB
      rw [ht] at hP1
      obtain ⟨rfl, rfl⟩ := hw
      have hP : va_P (dC, dI) vwCl (hfL A cI cQ cl st go hi ma ((cloS (nI (c0 + 1)) (upd tc (3 * c0) (-2)) c0 (-1) (-1) (-1)).2.1) ((cloS (nI (c0 + 1)) (upd tc (3 * c0) (-2)) c0 (-1) (-1) (-1)).2.2) be co ap tr ac nx) H := hP1
      have hD : va_D V (hfL A cI cQ cl st go hi ma ((cloS (nI (c0 + 1)) (upd tc (3 * c0) (-2)) c0 (-1) (-1) (-1)).2.1) ((cloS (nI (c0 + 1)) (upd tc (3 * c0) (-2)) c0 (-1) (-1) (-1)).2.2) be co ap tr ac nx) := hf_weak hD1 hFc
      clear hP1 hD1 hFc
      have hgr : grS ((cl, st, go, hi, ma), (nI c0, tc), (be, co, ap), tr, ac, nx) (n + 1) b c0 tc = cloN c0 (c0 + 1) (upd tc (3 * c0) (-2)) (-1) (-1) (-1) := grw_leaf (by rw [if_pos (b2i_n0.mp c13_0)])
      exact W.iret hx hb hr (fun t ht hW => ⟨⟨_, ((cl, st, go, hi, ma), ((cloS (nI (c0 + 1)) (upd tc (3 * c0) (-2)) c0 (-1) (-1) (-1)).2.1, (cloS (nI (c0 + 1)) (upd tc (3 * c0) (-2)) c0 (-1) (-1) (-1)).2.2), (be, co, ap), tr, ac, nx), rfl, by show (cloS (nI (c0 + 1)) (upd tc (3 * c0) (-2)) c0 (-1) (-1) (-1)).1 = (grS ((cl, st, go, hi, ma), (nI c0, tc), (be, co, ap), tr, ac, nx) (n + 1) b c0 tc).1 ∧ ((cl, st, go, hi, ma), (cloS (nI (c0 + 1)) (upd tc (3 * c0) (-2)) c0 (-1) (-1) (-1)).2, (be, co, ap), tr, ac, nx) = ((cl, st, go, hi, ma), (nI (grS ((cl, st, go, hi, ma), (nI c0, tc), (be, co, ap), tr, ac, nx) (n + 1) b c0 tc).2.1, (grS ((cl, st, go, hi, ma), (nI c0, tc), (be, co, ap), tr, ac, nx) (n + 1) b c0 tc).2.2), (be, co, ap), tr, ac, nx); rw [hgr, cloS_N]; exact ⟨rfl, rfl⟩, by rw [ht]; exact hP, hD⟩, hS.F ht⟩) hS.2.2 dX3_grow_45
set_option maxHeartbeats 4000000 in
set_option maxRecDepth 100000 in
/-- growPart(belief, n) out of grow(belief, n) -/
theorem c_X3_growPart_of (l : Launch) (dC : Nat → ClassId) (dI : Nat → Nat → Nat) (A : Nat → Nat) (cI cQ : ClassId) (n : Nat) (h : MGrow l dC dI A cI cQ n) : MPart l dC dI A cI cQ n := by
  intro σ sz c0 b hc hcn
  obtain ⟨⟨cl, st, go, hi, ma⟩, ⟨ct, tc⟩, ⟨be, co, ap⟩, tr, ac, nx⟩ := σ
  have hc : ct = nI c0 := hc
  subst hc
  refine Met.ofW (cc := cX3_growPart) (maxL := 3) (ret := (some .int)) (by decide) rfl ?_
  intro p e s m args below meth c s₁ B hml hv
  obtain ⟨rfl, hsz, hP, hX, hD0⟩ := hv
  have hx := B.exec
  have hb := B.bytes
  have hr := B.returns
  have hts := atoms_spec (ws := wsX3_growPart) B.pre
  have hown : s.vm.findClass RX3 = some m.cls := findClass_of_methodNamed B.named
  have hlocks := B.notSynchronized
  have hK := hX.1
  have hinX3 : ∀ w ∈ wsX30, w ∈ wsX3_growPart := fun _ h => List.mem_cons_of_mem _ (List.mem_append_left _ (List.mem_append_left _ (List.mem_append_right _ h)))
  subst hsz
  have hD := hD0.self (sz := s.heap.size)
  generalize hAe : va_A (hfW A cI cQ _) s.heap.size = V at hD ⊢
  have hA : ∀ q : Nat, s.heap.size ≤ q → V q := fun q h => by rw [← hAe]; exact Or.inr h
  have hS : va_S V s.heap s.heap [] := va_S.rf
  have hl := lv_entry ([.ref (A 0), .int b, .int (nI n)]) (n := 3) (Nat.le_of_ble_eq_true rfl)
  rw [lg_entry_eq]
  generalize (lg_sl ([.ref (A 0), .int b, .int (nI n)]) ++ List.replicate (3 - (lg_sl ([.ref (A 0), .int b, .int (nI n)])).length) Slot.unset).toArray = ls at hl ⊢
  have hl : lv_has ls 3 [(0, .ref (A 0)), (1, .int b), (2, .int (nI n))] := hl
  have hP : va_P (dC, dI) vwCl (hfL A cI cQ cl st go hi ma (nI c0) tc be co ap tr ac nx) s.heap := hP
  have hD : va_D V (hfL A cI cQ cl st go hi ma (nI c0) tc be co ap tr ac nx) := hD
  refine lv_iload_n hx hb dX3_growPart_0 rfl (lv_at hl 1 rfl) ?_
  refine lv_if_ne (tgt := 8) hx hb dX3_growPart_1 (by decide) (fun c1_0 => ?_) (fun c1_0 => ?_)
  · skip
    refine lv_aload_n hx hb dX3_growPart_8 rfl (lv_at hl 0 rfl) ?_
    refine lv_iload_n hx hb dX3_growPart_9 rfl (lv_at hl 1 rfl) ?_
    refine lv_iload_n hx hb dX3_growPart_10 rfl (lv_at hl 2 rfl) ?_
    have hFc := hf_free (σ := ((cl, st, go, hi, ma), (nI c0, tc), (be, co, ap), tr, ac, nx)) hD hS hA
    refine va_calli (va_runV (As := [.int b, .int (nI n)]) (rest := []) ⟨hx, hb, hml, hown, hts⟩ (h ((cl, st, go, hi, ma), (nI c0, tc), (be, co, ap), tr, ac, nx) s.heap.size c0 b rfl hcn) (cwV 2 hts gX3_growPart_X3_grow rfl rfl rfl (by decide +kernel) ⟨show 3 * n + 5 + 1 ≤ 3 * n + 6 by omega, show 8 + (8 + 11) + (69 * n + 200) ≤ 69 * n + 227 by omega⟩) ⟨bl_F, va_recv hK hP (ci := 3) (q0 := 0) rfl rfl, fun U hU hW => ⟨rfl, by rw [hU], by rw [hU]; exact hP, hX.warm hW, hf_any hD⟩⟩ rfl rfl hl.1 rfl (lv_room (Nat.le_of_ble_eq_true rfl)) dX3_growPart_11 ⟨Nat.zero_le _, Nat.zero_le _⟩) hS (fun q _ h => hFc q h) hFc (fun r u t H locs ht hvm hw hB hz1 hk1 hS => ?_)
    obtain ⟨hP1, hD1⟩ := hB
    rw [ht] at hP1
    obtain ⟨rfl, rfl⟩ := hw
    have hP : va_P (dC, dI) vwCl (hfL A cI cQ cl st go hi ma (nI (grS ((cl, st, go, hi, ma), (nI c0, tc), (be, co, ap), tr, ac, nx) n b c0 tc).2.1) ((grS ((cl, st, go, hi, ma), (nI c0, tc), (be, co, ap), tr, ac, nx) n b c0 tc).2.2) be co ap tr ac nx) H := hP1
    have hD : va_D V (hfL A cI cQ cl st go hi ma (nI (grS ((cl, st, go, hi, ma), (nI c0, tc), (be, co, ap), tr, ac, nx) n b c0 tc).2.1) ((grS ((cl, st, go, hi, ma), (nI c0, tc), (be, co, ap), tr, ac, nx) n b c0 tc).2.2) be co ap tr ac nx) := hf_weak hD1 hFc
    clear hP1 hD1 hFc
    have hgr : grPS ((cl, st, go, hi, ma), (nI c0, tc), (be, co, ap), tr, ac, nx) n b c0 tc = grS ((cl, st, go, hi, ma), (nI c0, tc), (be, co, ap), tr, ac, nx) n b c0 tc := if_neg c1_0
    exact W.iret hx hb hr (fun t ht hW => ⟨⟨_, ((cl, st, go, hi, ma), (nI (grS ((cl, st, go, hi, ma), (nI c0, tc), (be, co, ap), tr, ac, nx) n b c0 tc).2.1, (grS ((cl, st, go, hi, ma), (nI c0, tc), (be, co, ap), tr, ac, nx) n b c0 tc).2.2), (be, co, ap), tr, ac, nx), rfl, by show _ = (grPS ((cl, st, go, hi, ma), (nI c0, tc), (be, co, ap), tr, ac, nx) n b c0 tc).1 ∧ _ = ((cl, st, go, hi, ma), (nI (grPS ((cl, st, go, hi, ma), (nI c0, tc), (be, co, ap), tr, ac, nx) n b c0 tc).2.1, (grPS ((cl, st, go, hi, ma), (nI c0, tc), (be, co, ap), tr, ac, nx) n b c0 tc).2.2), (be, co, ap), tr, ac, nx); rw [hgr]; exact ⟨rfl, rfl⟩, by rw [ht]; exact hP, hD⟩, hS.F ht⟩) hS.2.2 dX3_growPart_14
  · skip
    refine lv_iconst (v := (-1)) hx hb dX3_growPart_4 (by decide) ?_
    refine lv_goto (tgt := 14) hx hb dX3_growPart_5 (by decide) ?_
    have hgr : grPS ((cl, st, go, hi, ma), (nI c0, tc), (be, co, ap), tr, ac, nx) n b c0 tc = (-1, c0, tc) := if_pos c1_0
    exact W.iret hx hb hr (fun t ht hW => ⟨⟨_, ((cl, st, go, hi, ma), (nI c0, tc), (be, co, ap), tr, ac, nx), rfl, by show _ = (grPS ((cl, st, go, hi, ma), (nI c0, tc), (be, co, ap), tr, ac, nx) n b c0 tc).1 ∧ _ = ((cl, st, go, hi, ma), (nI (grPS ((cl, st, go, hi, ma), (nI c0, tc), (be, co, ap), tr, ac, nx) n b c0 tc).2.1, (grPS ((cl, st, go, hi, ma), (nI c0, tc), (be, co, ap), tr, ac, nx) n b c0 tc).2.2), (be, co, ap), tr, ac, nx); rw [hgr]; exact ⟨rfl, rfl⟩, by rw [ht]; exact hP, hD⟩, hS.F ht⟩) hS.2.2 dX3_growPart_14
theorem c_X3_grow (l : Launch) (dC : Nat → ClassId) (dI : Nat → Nat → Nat) (A : Nat → Nat) (cI cQ : ClassId) : ∀ n : Nat, n < 2 ^ 20 → MGrow l dC dI A cI cQ n := by
  intro n
  induction n with
  | zero => intro _; exact c_X3_grow0 l dC dI A cI cQ
  | succ n ih => intro hn; exact c_X3_grow_of l dC dI A cI cQ n (by omega) (c_X3_growPart_of l dC dI A cI cQ n (ih (by omega)))
