set_option maxHeartbeats 4000000 in
set_option maxRecDepth 100000 in
/-- look(belief, 3) -/
theorem c_X3_look0 (l : Launch) (dC : Nat → ClassId) (dI : Nat → Nat → Nat) (A : Nat → Nat) (cI cQ : ClassId) (y : Nat → Nat → Nat) : MLook l dC dI A cI cQ y 0 := by
  intro σ sz d b x hdf hx1 hy1
  obtain rfl : d = 3 := by omega
  obtain ⟨⟨cl, st, go, hi, ma⟩, ⟨ct, tc⟩, ⟨be, co, ap⟩, tr, ac, nx⟩ := σ
  refine Met.ofW (cc := cX3_look) (maxL := 4) (ret := none) (by decide) rfl ?_
  intro p e s m args below meth c s₁ B hml hv
  obtain ⟨rfl, hsz, hP, hX, hD0⟩ := hv
  have hx := B.exec
  have hb := B.bytes
  have hr := B.returns
  have hts := atoms_spec (ws := wsX3_look) B.pre
  have hown : s.vm.findClass RX3 = some m.cls := findClass_of_methodNamed B.named
  have hlocks := B.notSynchronized
  have hK := hX.1
  have hinX3 : ∀ w ∈ wsX30, w ∈ wsX3_look := fun _ h => List.mem_cons_of_mem _ (List.mem_append_left _ (List.mem_append_left _ (List.mem_append_right _ h)))
  have hinX0 : ∀ w ∈ wsX00, w ∈ wsX3_look := fun _ h => List.mem_cons_of_mem _ (List.mem_append_left _ (List.mem_append_right _ h))
  subst hsz
  have hD := hD0.self (sz := s.heap.size)
  generalize hAe : va_A (hfW A cI cQ _) s.heap.size = V at hD ⊢
  have hA : ∀ q : Nat, s.heap.size ≤ q → V q := fun q h => by rw [← hAe]; exact Or.inr h
  have hS : va_S V s.heap s.heap [] := va_S.rf
  have hl := lv_entry ([.ref (A 0), .int b, .int (nI 3)]) (n := 4) (Nat.le_of_ble_eq_true rfl)
  rw [lg_entry_eq]
  generalize (lg_sl ([.ref (A 0), .int b, .int (nI 3)]) ++ List.replicate (4 - (lg_sl ([.ref (A 0), .int b, .int (nI 3)])).length) Slot.unset).toArray = ls at hl ⊢
  have hl : lv_has ls 4 [(0, .ref (A 0)), (1, .int b), (2, .int (nI 3))] := hl
  have hP : va_P (dC, dI) vwCl (hfL A cI cQ cl st go hi ma ct tc be co ap tr ac nx) s.heap := hP
  have hD : va_D V (hfL A cI cQ cl st go hi ma ct tc be co ap tr ac nx) := hD
  refine lv_iload_n hx hb dX3_look_0 rfl (lv_at hl 2 rfl) ?_
  refine lv_iconst (v := 3) hx hb dX3_look_1 (by decide) ?_
  refine lv_icmp_lt (tgt := 6) hx hb dX3_look_2 (by decide) (fun c2_0 => ?_) (fun c2_0 => ?_)
  · exact absurd c2_0 (by decide)
  · skip
    exact W.vret hx hb hr (fun t ht hW => ⟨⟨((cl, st, go, hi, ma), (ct, tc), (be, co, ap), tr, ac, nx), rfl, ⟨co, rfl, fun _ _ => rfl⟩, by rw [ht]; exact hP, hD⟩, hS.F ht⟩) hS.2.2 dX3_look_5
set_option maxHeartbeats 4000000 in
set_option maxRecDepth 100000 in
/-- look(belief, done) out of look(.., done + 1) -/
theorem c_X3_look_of (l : Launch) (dC : Nat → ClassId) (dI : Nat → Nat → Nat) (A : Nat → Nat) (cI cQ : ClassId) (y : Nat → Nat → Nat) (f : Nat) (h : MLook l dC dI A cI cQ y f) : MLook l dC dI A cI cQ y (f + 1) := by
  intro σ sz d b x hdf hx1 hy1
  obtain ⟨⟨cl, st, go, hi, ma⟩, ⟨ct, tc⟩, ⟨be, co, ap⟩, tr, ac, nx⟩ := σ
  refine Met.ofW (cc := cX3_look) (maxL := 4) (ret := none) (by decide) rfl ?_
  intro p e s m args below meth c s₁ B hml hv
  obtain ⟨rfl, hsz, hP, hX, hD0⟩ := hv
  have hx := B.exec
  have hb := B.bytes
  have hr := B.returns
  have hts := atoms_spec (ws := wsX3_look) B.pre
  have hown : s.vm.findClass RX3 = some m.cls := findClass_of_methodNamed B.named
  have hlocks := B.notSynchronized
  have hK := hX.1
  have hinX3 : ∀ w ∈ wsX30, w ∈ wsX3_look := fun _ h => List.mem_cons_of_mem _ (List.mem_append_left _ (List.mem_append_left _ (List.mem_append_right _ h)))
  have hinX0 : ∀ w ∈ wsX00, w ∈ wsX3_look := fun _ h => List.mem_cons_of_mem _ (List.mem_append_left _ (List.mem_append_right _ h))
  subst hsz
  have hD := hD0.self (sz := s.heap.size)
  generalize hAe : va_A (hfW A cI cQ _) s.heap.size = V at hD ⊢
  have hA : ∀ q : Nat, s.heap.size ≤ q → V q := fun q h => by rw [← hAe]; exact Or.inr h
  have hS : va_S V s.heap s.heap [] := va_S.rf
  have hl := lv_entry ([.ref (A 0), .int b, .int (nI d)]) (n := 4) (Nat.le_of_ble_eq_true rfl)
  rw [lg_entry_eq]
  generalize (lg_sl ([.ref (A 0), .int b, .int (nI d)]) ++ List.replicate (4 - (lg_sl ([.ref (A 0), .int b, .int (nI d)])).length) Slot.unset).toArray = ls at hl ⊢
  have hl : lv_has ls 4 [(0, .ref (A 0)), (1, .int b), (2, .int (nI d))] := hl
  have hP : va_P (dC, dI) vwCl (hfL A cI cQ cl st go hi ma ct tc be co ap tr ac nx) s.heap := hP
  have hD : va_D V (hfL A cI cQ cl st go hi ma ct tc be co ap tr ac nx) := hD
  have hx1 : ∀ j, j < 16 → co (16 * d + j) = nI (x j) ∧ x j < 16 := hx1
  have hy1 : ∀ a, a < 8 → ∀ j, j < 16 → nx a j = nI (y a j) ∧ y a j < 16 := hy1
  refine lv_iload_n hx hb dX3_look_0 rfl (lv_at hl 2 rfl) ?_
  refine lv_iconst (v := 3) hx hb dX3_look_1 (by decide) ?_
  refine lv_icmp_lt (tgt := 6) hx hb dX3_look_2 (by decide) (fun c2_0 => ?_) (fun c2_0 => ?_)
  · skip
    refine lv_iconst (v := 0) hx hb dX3_look_6 (by decide) ?_
    refine lv_istore_n (lv' := [(3, .int 0), (0, .ref (A 0)), (1, .int b), (2, .int (nI d))]) hx hb dX3_look_7 rfl hl (by decide) rfl (fun ls hl => ?_)
    refine w_loopH (pc := 8) 8 (fun a ls H locs => ∃ co' : Nat → Int32, va_P (dC, dI) vwCl (hfL A cI cQ cl st go hi ma ct tc be co' ((List.range a).foldl (fun z a => if usS ((cl, st, go, hi, ma), (ct, tc), (be, co, ap), tr, ac, nx) a b = true then lkS ((cl, st, go, hi, ma), (ct, tc), (be, co, ap), tr, ac, nx) y f (afS ((cl, st, go, hi, ma), (ct, tc), (be, co, ap), tr, ac, nx) a b) (fun j => y a (x j)) (mrk (snS ((cl, st, go, hi, ma), (ct, tc), (be, co, ap), tr, ac, nx) a) (fun j => y a (x j)) z) else z) ap) tr ac nx) H ∧ va_D V (hfL A cI cQ cl st go hi ma ct tc be co' ((List.range a).foldl (fun z a => if usS ((cl, st, go, hi, ma), (ct, tc), (be, co, ap), tr, ac, nx) a b = true then lkS ((cl, st, go, hi, ma), (ct, tc), (be, co, ap), tr, ac, nx) y f (afS ((cl, st, go, hi, ma), (ct, tc), (be, co, ap), tr, ac, nx) a b) (fun j => y a (x j)) (mrk (snS ((cl, st, go, hi, ma), (ct, tc), (be, co, ap), tr, ac, nx) a) (fun j => y a (x j)) z) else z) ap) tr ac nx) ∧ va_S V s.heap H locs ∧ (∀ q, q < 16 * d + 16 → co' q = co q) ∧ lv_has ls 4 [(0, .ref (A 0)), (1, .int b), (2, .int (nI d)), (3, .int (nI a))]) ?_ 0 (Nat.zero_le _) ls _ _ ⟨co, hP, hD, hS, fun _ _ => rfl, lv_sub hl [1, 2, 3, 0] rfl⟩
    intro a ls H locs hk hI ih
    obtain ⟨co', hP, hD, hS, hco, hl⟩ := hI
    refine lv_iload_n hx hb dX3_look_8 rfl (lv_at hl 3 rfl) ?_
    refine lv_bipush (v := 8) hx hb dX3_look_9 (by decide) ?_
    refine lv_icmp_ge (tgt := 64) hx hb dX3_look_11 (by decide) (fun c11_1 => ?_) (fun c11_1 => ?_)
    · skip
      obtain rfl := ctr_ge (N := 8) rfl (by decide) hk c11_1
      exact W.vret hx hb hr (fun t ht hW => ⟨⟨((cl, st, go, hi, ma), (ct, tc), (be, co', (List.range 8).foldl (fun z a => if usS ((cl, st, go, hi, ma), (ct, tc), (be, co, ap), tr, ac, nx) a b = true then lkS ((cl, st, go, hi, ma), (ct, tc), (be, co, ap), tr, ac, nx) y f (afS ((cl, st, go, hi, ma), (ct, tc), (be, co, ap), tr, ac, nx) a b) (fun j => y a (x j)) (mrk (snS ((cl, st, go, hi, ma), (ct, tc), (be, co, ap), tr, ac, nx) a) (fun j => y a (x j)) z) else z) ap), tr, ac, nx), rfl, ⟨co', rfl, hco⟩, by rw [ht]; exact hP, hD⟩, hS.F ht⟩) hS.2.2 dX3_look_64
    · skip
      have ha := ctr_lt (N := 8) rfl (by decide) hk c11_1
      refine lv_aload_n hx hb dX3_look_14 rfl (lv_at hl 0 rfl) ?_
      refine va_get (D := (dC, dI)) (ci := 3) (v := .ref (A 1)) (C := RX3) (T := TX3) (N := 9) hx hb hts hinX3 hown hK hP 0 rfl rfl 0 (by decide) (hts _ (List.mem_of_getElem? (i := 1) rfl)) (fun _ h9 => h9) rfl dX3_look_15 ?_
      refine lv_iload_n hx hb dX3_look_18 rfl (lv_at hl 3 rfl) ?_
      refine va_aldq hx hb hK hP 1 1 rfl rfl (vp_in_nI (show a < 8 by omega) (by decide)) dX3_look_19 ?_
      rw [nI_clamp (show a < 2 ^ 31 by have := (show a < 8 by omega); omega)]
      refine lv_iload_n hx hb dX3_look_20 rfl (lv_at hl 1 rfl) ?_
      refine vp_callSi (W.runV (As := [.int b]) (rest := []) ⟨hx, hb, hml, hown, hts⟩ (c_X0_usable l dC dI A cI cQ ((cl, st, go, hi, ma), (ct, tc), (be, co', (List.range a).foldl (fun z a => if usS ((cl, st, go, hi, ma), (ct, tc), (be, co, ap), tr, ac, nx) a b = true then lkS ((cl, st, go, hi, ma), (ct, tc), (be, co, ap), tr, ac, nx) y f (afS ((cl, st, go, hi, ma), (ct, tc), (be, co, ap), tr, ac, nx) a b) (fun j => y a (x j)) (mrk (snS ((cl, st, go, hi, ma), (ct, tc), (be, co, ap), tr, ac, nx) a) (fun j => y a (x j)) z) else z) ap), tr, ac, nx) ha b) (cwV 1 hts gX3_look_X0_usable rfl rfl rfl (by decide +kernel) ⟨show 0 + 1 ≤ f + 1 + 3 by omega, show 8 + (2 + 11) + (0) ≤ 23 * (f + 1) + 69 by omega⟩) ⟨bl_P, va_recv hK hP (ci := 0) (q0 := (8 + a)) rfl (hf_act ha), fun U hU hW => ⟨rfl, by rw [hU]; exact hP, hX.warm hW⟩⟩ rfl rfl hl.1 rfl (lv_room (Nat.le_of_ble_eq_true rfl)) dX3_look_21 ⟨Nat.zero_le _, Nat.zero_le _⟩) (fun r er => ?_)
      obtain rfl : r = b2i (usS ((cl, st, go, hi, ma), (ct, tc), (be, co, ap), tr, ac, nx) a b) := er
      refine lv_if_eq (tgt := 58) hx hb dX3_look_24 (by decide) (fun c24_2 => ?_) (fun c24_2 => ?_)
      · skip
        obtain ⟨y3, ey3⟩ : ∃ y : Int32, y = (nI a) + 1 := ⟨_, rfl⟩
        refine lv_iinc (v := y3) (lv' := [(3, .int y3), (0, .ref (A 0)), (1, .int b), (2, .int (nI d))]) hx hb dX3_look_58 hl (k := 3) rfl (by rw [ey3]; rfl) (by decide) rfl (fun ls hl => ?_)
        obtain rfl : y3 = nI (a + 1) := ey3.trans (nI_1 a)
        refine lv_goto (tgt := 8) hx hb dX3_look_61 (by decide) ?_
        exact ih ls H locs ⟨co', by rw [fold_s, if_neg (by rw [b2i_0.mp c24_2]; decide)]; exact hP, by rw [fold_s, if_neg (by rw [b2i_0.mp c24_2]; decide)]; exact hD, hS, hco, lv_sub hl [1, 2, 3, 0] rfl⟩ ha
      · skip
        refine lv_aload_n hx hb dX3_look_27 rfl (lv_at hl 0 rfl) ?_
        refine va_get (D := (dC, dI)) (ci := 3) (v := .ref (A 4)) (C := RX3) (T := TX3) (N := 9) hx hb hts hinX3 hown hK hP 0 rfl rfl 2 (by decide) (hts _ (List.mem_of_getElem? (i := 2) rfl)) (fun _ h9 => h9) rfl dX3_look_28 ?_
        refine lv_aload_n hx hb dX3_look_31 rfl (lv_at hl 0 rfl) ?_
        refine va_get (D := (dC, dI)) (ci := 3) (v := .ref (A 1)) (C := RX3) (T := TX3) (N := 9) hx hb hts hinX3 hown hK hP 0 rfl rfl 0 (by decide) (hts _ (List.mem_of_getElem? (i := 1) rfl)) (fun _ h9 => h9) rfl dX3_look_32 ?_
        refine lv_iload_n hx hb dX3_look_35 rfl (lv_at hl 3 rfl) ?_
        refine va_aldq hx hb hK hP 1 1 rfl rfl (vp_in_nI (show a < 8 by omega) (by decide)) dX3_look_36 ?_
        rw [nI_clamp (show a < 2 ^ 31 by have := (show a < 8 by omega); omega)]
        refine lv_iload_n hx hb dX3_look_37 rfl (lv_at hl 2 rfl) ?_
        have hFc := hf_free (σ := ((cl, st, go, hi, ma), (ct, tc), (be, co', (List.range a).foldl (fun z a => if usS ((cl, st, go, hi, ma), (ct, tc), (be, co, ap), tr, ac, nx) a b = true then lkS ((cl, st, go, hi, ma), (ct, tc), (be, co, ap), tr, ac, nx) y f (afS ((cl, st, go, hi, ma), (ct, tc), (be, co, ap), tr, ac, nx) a b) (fun j => y a (x j)) (mrk (snS ((cl, st, go, hi, ma), (ct, tc), (be, co, ap), tr, ac, nx) a) (fun j => y a (x j)) z) else z) ap), tr, ac, nx)) hD hS hA
        refine va_callv (va_runV (As := [.ref (A (8 + a)), .int (nI d)]) (rest := []) ⟨hx, hb, hml, hown, hts⟩ (c_X1_step l dC dI A cI cQ ((cl, st, go, hi, ma), (ct, tc), (be, co', (List.range a).foldl (fun z a => if usS ((cl, st, go, hi, ma), (ct, tc), (be, co, ap), tr, ac, nx) a b = true then lkS ((cl, st, go, hi, ma), (ct, tc), (be, co, ap), tr, ac, nx) y f (afS ((cl, st, go, hi, ma), (ct, tc), (be, co, ap), tr, ac, nx) a b) (fun j => y a (x j)) (mrk (snS ((cl, st, go, hi, ma), (ct, tc), (be, co, ap), tr, ac, nx) a) (fun j => y a (x j)) z) else z) ap), tr, ac, nx) H.size ha (d := d) (by omega) x (y a) (fun j hj => by show co' (16 * d + j) = _ ∧ _; rw [hco _ (by omega)]; exact hx1 j hj) (hy1 a ha)) (cwV 2 hts gX3_look_X1_step rfl rfl rfl (by decide +kernel) ⟨show 2 + 1 ≤ f + 1 + 3 by omega, show 8 + (7 + 11) + (43) ≤ 23 * (f + 1) + 69 by omega⟩) ⟨bl_F, va_recv hK hP (ci := 1) (q0 := 4) rfl rfl, fun U hU hW => ⟨rfl, by rw [hU], by rw [hU]; exact hP, hX.warm hW, hf_any hD⟩⟩ rfl rfl hl.1 rfl (lv_room (Nat.le_of_ble_eq_true rfl)) dX3_look_38 ⟨Nat.zero_le _, Nat.zero_le _⟩) hS (fun q _ h => hFc q h) hFc (fun u t H locs ht hvm hw hB hz1 hk1 hS => ?_)
        obtain ⟨hP1, hD1⟩ := hB
        rw [ht] at hP1
        subst hw
        have hP : va_P (dC, dI) vwCl (hfL A cI cQ cl st go hi ma ct tc be (stpN co' d (fun j => nI (y a (x j))) 16) (mrk (snS ((cl, st, go, hi, ma), (ct, tc), (be, co, ap), tr, ac, nx) a) (fun j => y a (x j)) ((List.range a).foldl (fun z a => if usS ((cl, st, go, hi, ma), (ct, tc), (be, co, ap), tr, ac, nx) a b = true then lkS ((cl, st, go, hi, ma), (ct, tc), (be, co, ap), tr, ac, nx) y f (afS ((cl, st, go, hi, ma), (ct, tc), (be, co, ap), tr, ac, nx) a b) (fun j => y a (x j)) (mrk (snS ((cl, st, go, hi, ma), (ct, tc), (be, co, ap), tr, ac, nx) a) (fun j => y a (x j)) z) else z) ap)) tr ac nx) H := hP1
        have hD : va_D V (hfL A cI cQ cl st go hi ma ct tc be (stpN co' d (fun j => nI (y a (x j))) 16) (mrk (snS ((cl, st, go, hi, ma), (ct, tc), (be, co, ap), tr, ac, nx) a) (fun j => y a (x j)) ((List.range a).foldl (fun z a => if usS ((cl, st, go, hi, ma), (ct, tc), (be, co, ap), tr, ac, nx) a b = true then lkS ((cl, st, go, hi, ma), (ct, tc), (be, co, ap), tr, ac, nx) y f (afS ((cl, st, go, hi, ma), (ct, tc), (be, co, ap), tr, ac, nx) a b) (fun j => y a (x j)) (mrk (snS ((cl, st, go, hi, ma), (ct, tc), (be, co, ap), tr, ac, nx) a) (fun j => y a (x j)) z) else z) ap)) tr ac nx) := hf_weak hD1 hFc
        clear hP1 hD1 hFc
        refine lv_aload_n hx hb dX3_look_41 rfl (lv_at hl 0 rfl) ?_
        refine lv_aload_n hx hb dX3_look_42 rfl (lv_at hl 0 rfl) ?_
        refine va_get (D := (dC, dI)) (ci := 3) (v := .ref (A 1)) (C := RX3) (T := TX3) (N := 9) hx hb hts hinX3 hown hK hP 0 rfl rfl 0 (by decide) (hts _ (List.mem_of_getElem? (i := 1) rfl)) (fun _ h9 => h9) rfl dX3_look_43 ?_
        refine lv_iload_n hx hb dX3_look_46 rfl (lv_at hl 3 rfl) ?_
        refine va_aldq hx hb hK hP 1 1 rfl rfl (vp_in_nI (show a < 8 by omega) (by decide)) dX3_look_47 ?_
        rw [nI_clamp (show a < 2 ^ 31 by have := (show a < 8 by omega); omega)]
        refine lv_iload_n hx hb dX3_look_48 rfl (lv_at hl 1 rfl) ?_
        refine vp_callSi (W.runV (As := [.int b]) (rest := [.ref (A 0)]) ⟨hx, hb, hml, hown, hts⟩ (c_X0_after l dC dI A cI cQ ((cl, st, go, hi, ma), (ct, tc), (be, stpN co' d (fun j => nI (y a (x j))) 16, mrk (snS ((cl, st, go, hi, ma), (ct, tc), (be, co, ap), tr, ac, nx) a) (fun j => y a (x j)) ((List.range a).foldl (fun z a => if usS ((cl, st, go, hi, ma), (ct, tc), (be, co, ap), tr, ac, nx) a b = true then lkS ((cl, st, go, hi, ma), (ct, tc), (be, co, ap), tr, ac, nx) y f (afS ((cl, st, go, hi, ma), (ct, tc), (be, co, ap), tr, ac, nx) a b) (fun j => y a (x j)) (mrk (snS ((cl, st, go, hi, ma), (ct, tc), (be, co, ap), tr, ac, nx) a) (fun j => y a (x j)) z) else z) ap)), tr, ac, nx) ha b) (cwV 1 hts gX3_look_X0_after rfl rfl rfl (by decide +kernel) ⟨show 1 + 1 ≤ f + 1 + 3 by omega, show 8 + (4 + 11) + (21) ≤ 23 * (f + 1) + 69 by omega⟩) ⟨bl_P, va_recv hK hP (ci := 0) (q0 := (8 + a)) rfl (hf_act ha), fun U hU hW => ⟨rfl, by rw [hU]; exact hP, hX.warm hW⟩⟩ rfl rfl hl.1 rfl (lv_room (Nat.le_of_ble_eq_true rfl)) dX3_look_49 ⟨Nat.zero_le _, Nat.zero_le _⟩) (fun r er => ?_)
        obtain rfl : r = afS ((cl, st, go, hi, ma), (ct, tc), (be, co, ap), tr, ac, nx) a b := er
        refine lv_iload_n hx hb dX3_look_52 rfl (lv_at hl 2 rfl) ?_
        refine lv_iconst (v := 1) hx hb dX3_look_53 (by decide) ?_
        refine lv_iadd hx hb dX3_look_54 ?_
        refine lv_topi (fun y4 ey4 => ?_)
        obtain rfl : y4 = nI (d + 1) := ey4.trans (nI_1 d)
        have hFc := hf_free (σ := ((cl, st, go, hi, ma), (ct, tc), (be, stpN co' d (fun j => nI (y a (x j))) 16, mrk (snS ((cl, st, go, hi, ma), (ct, tc), (be, co, ap), tr, ac, nx) a) (fun j => y a (x j)) ((List.range a).foldl (fun z a => if usS ((cl, st, go, hi, ma), (ct, tc), (be, co, ap), tr, ac, nx) a b = true then lkS ((cl, st, go, hi, ma), (ct, tc), (be, co, ap), tr, ac, nx) y f (afS ((cl, st, go, hi, ma), (ct, tc), (be, co, ap), tr, ac, nx) a b) (fun j => y a (x j)) (mrk (snS ((cl, st, go, hi, ma), (ct, tc), (be, co, ap), tr, ac, nx) a) (fun j => y a (x j)) z) else z) ap)), tr, ac, nx)) hD hS hA
        refine va_callv (va_runV (As := [.int (afS ((cl, st, go, hi, ma), (ct, tc), (be, co, ap), tr, ac, nx) a b), .int (nI (d + 1))]) (rest := []) ⟨hx, hb, hml, hown, hts⟩ (h ((cl, st, go, hi, ma), (ct, tc), (be, stpN co' d (fun j => nI (y a (x j))) 16, mrk (snS ((cl, st, go, hi, ma), (ct, tc), (be, co, ap), tr, ac, nx) a) (fun j => y a (x j)) ((List.range a).foldl (fun z a => if usS ((cl, st, go, hi, ma), (ct, tc), (be, co, ap), tr, ac, nx) a b = true then lkS ((cl, st, go, hi, ma), (ct, tc), (be, co, ap), tr, ac, nx) y f (afS ((cl, st, go, hi, ma), (ct, tc), (be, co, ap), tr, ac, nx) a b) (fun j => y a (x j)) (mrk (snS ((cl, st, go, hi, ma), (ct, tc), (be, co, ap), tr, ac, nx) a) (fun j => y a (x j)) z) else z) ap)), tr, ac, nx) H.size (d + 1) (afS ((cl, st, go, hi, ma), (ct, tc), (be, co, ap), tr, ac, nx) a b) (fun j => y a (x j)) (by omega) (fun j hj => ⟨show stpN co' d (fun j => nI (y a (x j))) 16 (16 * (d + 1) + j) = _ from stpN_hi co' d _ hj, (hy1 a ha (x j) (hx1 j hj).2).2⟩) hy1) (cwV 2 hts gX3_look_X3_look rfl rfl rfl (by decide +kernel) ⟨show f + 3 + 1 ≤ f + 1 + 3 by omega, show 8 + (4 + 11) + (23 * f + 69) ≤ 23 * (f + 1) + 69 by omega⟩) ⟨bl_F, va_recv hK hP (ci := 3) (q0 := 0) rfl rfl, fun U hU hW => ⟨rfl, by rw [hU], by rw [hU]; exact hP, hX.warm hW, hf_any hD⟩⟩ rfl rfl hl.1 rfl (lv_room (Nat.le_of_ble_eq_true rfl)) dX3_look_55 ⟨Nat.zero_le _, Nat.zero_le _⟩) hS (fun q _ h => hFc q h) hFc (fun u t H locs ht hvm hw hB hz1 hk1 hS => ?_)
        obtain ⟨hP1, hD1⟩ := hB
        rw [ht] at hP1
        obtain ⟨co3, rfl, hco3⟩ := hw
        have hco3 : ∀ q, q < 16 * (d + 1) + 16 → co3 q = stpN co' d (fun j => nI (y a (x j))) 16 q := hco3
        have hP : va_P (dC, dI) vwCl (hfL A cI cQ cl st go hi ma ct tc be co3 (lkS ((cl, st, go, hi, ma), (ct, tc), (be, co, ap), tr, ac, nx) y f (afS ((cl, st, go, hi, ma), (ct, tc), (be, co, ap), tr, ac, nx) a b) (fun j => y a (x j)) (mrk (snS ((cl, st, go, hi, ma), (ct, tc), (be, co, ap), tr, ac, nx) a) (fun j => y a (x j)) ((List.range a).foldl (fun z a => if usS ((cl, st, go, hi, ma), (ct, tc), (be, co, ap), tr, ac, nx) a b = true then lkS ((cl, st, go, hi, ma), (ct, tc), (be, co, ap), tr, ac, nx) y f (afS ((cl, st, go, hi, ma), (ct, tc), (be, co, ap), tr, ac, nx) a b) (fun j => y a (x j)) (mrk (snS ((cl, st, go, hi, ma), (ct, tc), (be, co, ap), tr, ac, nx) a) (fun j => y a (x j)) z) else z) ap))) tr ac nx) H := hP1
        have hD : va_D V (hfL A cI cQ cl st go hi ma ct tc be co3 (lkS ((cl, st, go, hi, ma), (ct, tc), (be, co, ap), tr, ac, nx) y f (afS ((cl, st, go, hi, ma), (ct, tc), (be, co, ap), tr, ac, nx) a b) (fun j => y a (x j)) (mrk (snS ((cl, st, go, hi, ma), (ct, tc), (be, co, ap), tr, ac, nx) a) (fun j => y a (x j)) ((List.range a).foldl (fun z a => if usS ((cl, st, go, hi, ma), (ct, tc), (be, co, ap), tr, ac, nx) a b = true then lkS ((cl, st, go, hi, ma), (ct, tc), (be, co, ap), tr, ac, nx) y f (afS ((cl, st, go, hi, ma), (ct, tc), (be, co, ap), tr, ac, nx) a b) (fun j => y a (x j)) (mrk (snS ((cl, st, go, hi, ma), (ct, tc), (be, co, ap), tr, ac, nx) a) (fun j => y a (x j)) z) else z) ap))) tr ac nx) := hf_weak hD1 hFc
        clear hP1 hD1 hFc
        obtain ⟨y5, ey5⟩ : ∃ y : Int32, y = (nI a) + 1 := ⟨_, rfl⟩
        refine lv_iinc (v := y5) (lv' := [(3, .int y5), (0, .ref (A 0)), (1, .int b), (2, .int (nI d))]) hx hb dX3_look_58 hl (k := 3) rfl (by rw [ey5]; rfl) (by decide) rfl (fun ls hl => ?_)
        obtain rfl : y5 = nI (a + 1) := ey5.trans (nI_1 a)
        refine lv_goto (tgt := 8) hx hb dX3_look_61 (by decide) ?_
        exact ih ls H locs ⟨co3, by rw [fold_s, if_pos (b2i_n0.mp c24_2)]; exact hP, by rw [fold_s, if_pos (b2i_n0.mp c24_2)]; exact hD, hS, fun q hq => by rw [hco3 q (by omega), stpN_lo _ _ _ hq, hco q hq], lv_sub hl [1, 2, 3, 0] rfl⟩ ha
  · exact absurd (nI_lt (a := d) (b := 3) (by omega) (by decide)) c2_0
theorem c_X3_look (l : Launch) (dC : Nat → ClassId) (dI : Nat → Nat → Nat) (A : Nat → Nat) (cI cQ : ClassId) (y : Nat → Nat → Nat) : ∀ f : Nat, MLook l dC dI A cI cQ y f := by
  intro f
  induction f with
  | zero => exact c_X3_look0 l dC dI A cI cQ y
  | succ f ih => exact c_X3_look_of l dC dI A cI cQ y f ih
