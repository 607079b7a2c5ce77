set_option maxHeartbeats 4000000 in
set_option maxRecDepth 100000 in
/-- forgetAll() -/
theorem c_X3_forgetAll (l : Launch) (dC : Nat → ClassId) (dI : Nat → Nat → Nat) (A : Nat → Nat) (cI cQ : ClassId) (σ : HS) (sz : Nat) : Met l yX3_forgetAll wsX3_forgetAll ({ frames := 1, cells := 0, slots := 0, locals := 20 }) (va_Pc [.ref (A 0)] (hfF dC dI A cI cQ sz σ)) (va_Qv (fun τ : HS => τ = ((0, 65535, 65535, -1, 0), (0, tcS σ), σ.2.2.1, trS σ, clrN (acS σ) 8, nxS σ)) (hfB dC dI A cI cQ (va_A (hfW A cI cQ σ) sz)) (va_A (hfW A cI cQ σ) sz)) 0 0 (va_A (hfW A cI cQ σ) sz) := by
  obtain ⟨⟨cl, st, go, hi, ma⟩, ⟨ct, tc⟩, ⟨be, co, ap⟩, tr, ac, nx⟩ := σ
  refine Met.ofW (cc := cX3_forgetAll) (maxL := 2) (ret := none) (by decide) rfl ?_
  intro p e s m args below meth c s₁ B hml hv
  obtain ⟨rfl, hsz, hP, hX, hD0⟩ := hv
  have hx := B.exec
  have hb := B.bytes
  have hr := B.returns
  have hts := atoms_spec (ws := wsX3_forgetAll) B.pre
  have hown : s.vm.findClass RX3 = some m.cls := findClass_of_methodNamed B.named
  have hlocks := B.notSynchronized
  have hK := hX.1
  have hinX3 : ∀ w ∈ wsX30, w ∈ wsX3_forgetAll := fun _ h => List.mem_cons_of_mem _ (List.mem_append_left _ (List.mem_append_left _ (List.mem_append_right _ h)))
  have hinX0 : ∀ w ∈ wsX00, w ∈ wsX3_forgetAll := fun _ h => List.mem_cons_of_mem _ (List.mem_append_left _ (List.mem_append_right _ h))
  subst hsz
  have hD := hD0.self (sz := s.heap.size)
  generalize hAe : va_A (hfW A cI cQ _) s.heap.size = V at hD ⊢
  have hA : ∀ q : Nat, s.heap.size ≤ q → V q := fun q h => by rw [← hAe]; exact Or.inr h
  have hS : va_S V s.heap s.heap [] := va_S.rf
  have hl := lv_entry ([.ref (A 0)]) (n := 2) (Nat.le_of_ble_eq_true rfl)
  rw [lg_entry_eq]
  generalize (lg_sl ([.ref (A 0)]) ++ List.replicate (2 - (lg_sl ([.ref (A 0)])).length) Slot.unset).toArray = ls at hl ⊢
  have hl : lv_has ls 2 [(0, .ref (A 0))] := hl
  have hP : va_P (dC, dI) vwCl (hfL A cI cQ cl st go hi ma ct tc be co ap tr ac nx) s.heap := hP
  have hD : va_D V (hfL A cI cQ cl st go hi ma ct tc be co ap tr ac nx) := hD
  refine lv_iconst (v := 0) hx hb dX3_forgetAll_0 (by decide) ?_
  refine lv_istore_n (lv' := [(1, .int 0), (0, .ref (A 0))]) hx hb dX3_forgetAll_1 rfl hl (by decide) rfl (fun ls hl => ?_)
  refine w_loopH (pc := 2) 8 (fun a ls H locs => va_P (dC, dI) vwCl (hfL A cI cQ cl st go hi ma ct tc be co ap tr (clrN ac a) nx) H ∧ va_D V (hfL A cI cQ cl st go hi ma ct tc be co ap tr (clrN ac a) nx) ∧ va_S V s.heap H locs ∧ True ∧ lv_has ls 2 [(0, .ref (A 0)), (1, .int (nI a))]) ?_ 0 (Nat.zero_le _) ls _ _ ⟨?_, ?_, hS, trivial, lv_sub hl [1, 0] rfl⟩
  rotate_left
  · rw [clrN_0]; exact hP
  · rw [clrN_0]; exact hD
  intro a ls H locs hk hI ih
  obtain ⟨hP, hD, hS, hEx, hl⟩ := hI
  refine lv_iload_n hx hb dX3_forgetAll_2 rfl (lv_at hl 1 rfl) ?_
  refine lv_bipush (v := 8) hx hb dX3_forgetAll_3 (by decide) ?_
  refine lv_icmp_ge (tgt := 24) hx hb dX3_forgetAll_5 (by decide) (fun c5_0 => ?_) (fun c5_0 => ?_)
  · skip
    obtain rfl := ctr_ge (N := 8) rfl (by decide) hk c5_0
    refine lv_aload_n hx hb dX3_forgetAll_24 rfl (lv_at hl 0 rfl) ?_
    refine va_get (D := (dC, dI)) (ci := 3) (v := .ref (A 2)) (C := RX3) (T := TX3) (N := 9) hx hb hts hinX3 hown hK hP 0 rfl rfl 1 (by decide) (hts _ (List.mem_of_getElem? (i := 2) rfl)) (fun _ h9 => h9) rfl dX3_forgetAll_25 ?_
    have hFc := hf_free (σ := ((cl, st, go, hi, ma), (ct, tc), (be, co, ap), tr, clrN ac 8, nx)) hD hS hA
    refine va_callv (va_runV (As := []) (rest := []) ⟨hx, hb, hml, hown, hts⟩ (c_X2_empty l dC dI A cI cQ ((cl, st, go, hi, ma), (ct, tc), (be, co, ap), tr, clrN ac 8, nx) H.size) (cwV 0 hts gX3_forgetAll_X2_empty rfl rfl rfl (by decide +kernel) ⟨Nat.le_of_ble_eq_true rfl, Nat.le_of_ble_eq_true rfl⟩) ⟨bl_F, va_recv hK hP (ci := 2) (q0 := 2) rfl rfl, fun U hU hW => ⟨rfl, by rw [hU], by rw [hU]; exact hP, hX.warm hW, hf_any hD⟩⟩ rfl rfl hl.1 rfl (lv_room (Nat.le_of_ble_eq_true rfl)) dX3_forgetAll_28 ⟨Nat.zero_le _, Nat.zero_le _⟩) hS (fun q _ h => hFc q h) hFc (fun u t H locs ht hvm hw hB hz1 hk1 hS => ?_)
    obtain ⟨hP1, hD1⟩ := hB
    rw [ht] at hP1
    subst hw
    have hP : va_P (dC, dI) vwCl (hfL A cI cQ cl st go hi ma 0 tc be co ap tr (clrN ac 8) nx) H := hP1
    have hD : va_D V (hfL A cI cQ cl st go hi ma 0 tc be co ap tr (clrN ac 8) nx) := hf_weak hD1 hFc
    clear hP1 hD1 hFc
    refine lv_aload_n hx hb dX3_forgetAll_31 rfl (lv_at hl 0 rfl) ?_
    refine lv_iconst (v := 0) hx hb dX3_forgetAll_32 (by decide) ?_
    refine va_put (D := (dC, dI)) (ci := 3) (v := .int 0) (ty := .int) (C := RX3) (T := TX3) (N := 9) hx hb hts hinX3 tyX3 tyX3_ok nmX3 hown hK hP hD hS 0 rfl rfl 4 (by decide) (hts _ (List.mem_of_getElem? (i := 3) rfl)) (fun _ h9 => h9) rfl (by decide +kernel) rfl rfl (Nat.le_of_ble_eq_true rfl) dX3_forgetAll_33 (fun H locs hP hD hS => ?_)
    have hP : va_P (dC, dI) vwCl (hfL A cI cQ 0 st go hi ma 0 tc be co ap tr (clrN ac 8) nx) H := hP
    have hD : va_D V (hfL A cI cQ 0 st go hi ma 0 tc be co ap tr (clrN ac 8) nx) := hD
    refine lv_aload_n hx hb dX3_forgetAll_36 rfl (lv_at hl 0 rfl) ?_
    refine lv_ldc (v := (65535)) hx hb hown (hts _ (List.mem_of_getElem? (i := 4) rfl)) dX3_forgetAll_37 ?_
    refine va_put (D := (dC, dI)) (ci := 3) (v := .int (65535)) (ty := .int) (C := RX3) (T := TX3) (N := 9) hx hb hts hinX3 tyX3 tyX3_ok nmX3 hown hK hP hD hS 0 rfl rfl 5 (by decide) (hts _ (List.mem_of_getElem? (i := 5) rfl)) (fun _ h9 => h9) rfl (by decide +kernel) rfl rfl (Nat.le_of_ble_eq_true rfl) dX3_forgetAll_39 (fun H locs hP hD hS => ?_)
    have hP : va_P (dC, dI) vwCl (hfL A cI cQ 0 (65535) go hi ma 0 tc be co ap tr (clrN ac 8) nx) H := hP
    have hD : va_D V (hfL A cI cQ 0 (65535) go hi ma 0 tc be co ap tr (clrN ac 8) nx) := hD
    refine lv_aload_n hx hb dX3_forgetAll_42 rfl (lv_at hl 0 rfl) ?_
    refine lv_ldc (v := (65535)) hx hb hown (hts _ (List.mem_of_getElem? (i := 4) rfl)) dX3_forgetAll_43 ?_
    refine va_put (D := (dC, dI)) (ci := 3) (v := .int (65535)) (ty := .int) (C := RX3) (T := TX3) (N := 9) hx hb hts hinX3 tyX3 tyX3_ok nmX3 hown hK hP hD hS 0 rfl rfl 6 (by decide) (hts _ (List.mem_of_getElem? (i := 6) rfl)) (fun _ h9 => h9) rfl (by decide +kernel) rfl rfl (Nat.le_of_ble_eq_true rfl) dX3_forgetAll_45 (fun H locs hP hD hS => ?_)
    have hP : va_P (dC, dI) vwCl (hfL A cI cQ 0 (65535) (65535) hi ma 0 tc be co ap tr (clrN ac 8) nx) H := hP
    have hD : va_D V (hfL A cI cQ 0 (65535) (65535) hi ma 0 tc be co ap tr (clrN ac 8) nx) := hD
    refine lv_aload_n hx hb dX3_forgetAll_48 rfl (lv_at hl 0 rfl) ?_
    refine lv_iconst (v := (-1)) hx hb dX3_forgetAll_49 (by decide) ?_
    refine va_put (D := (dC, dI)) (ci := 3) (v := .int (-1)) (ty := .int) (C := RX3) (T := TX3) (N := 9) hx hb hts hinX3 tyX3 tyX3_ok nmX3 hown hK hP hD hS 0 rfl rfl 7 (by decide) (hts _ (List.mem_of_getElem? (i := 7) rfl)) (fun _ h9 => h9) rfl (by decide +kernel) rfl rfl (Nat.le_of_ble_eq_true rfl) dX3_forgetAll_50 (fun H locs hP hD hS => ?_)
    have hP : va_P (dC, dI) vwCl (hfL A cI cQ 0 (65535) (65535) (-1) ma 0 tc be co ap tr (clrN ac 8) nx) H := hP
    have hD : va_D V (hfL A cI cQ 0 (65535) (65535) (-1) ma 0 tc be co ap tr (clrN ac 8) nx) := hD
    refine lv_aload_n hx hb dX3_forgetAll_53 rfl (lv_at hl 0 rfl) ?_
    refine lv_iconst (v := 0) hx hb dX3_forgetAll_54 (by decide) ?_
    refine va_put (D := (dC, dI)) (ci := 3) (v := .int 0) (ty := .int) (C := RX3) (T := TX3) (N := 9) hx hb hts hinX3 tyX3 tyX3_ok nmX3 hown hK hP hD hS 0 rfl rfl 8 (by decide) (hts _ (List.mem_of_getElem? (i := 8) rfl)) (fun _ h9 => h9) rfl (by decide +kernel) rfl rfl (Nat.le_of_ble_eq_true rfl) dX3_forgetAll_55 (fun H locs hP hD hS => ?_)
    have hP : va_P (dC, dI) vwCl (hfL A cI cQ 0 (65535) (65535) (-1) 0 0 tc be co ap tr (clrN ac 8) nx) H := hP
    have hD : va_D V (hfL A cI cQ 0 (65535) (65535) (-1) 0 0 tc be co ap tr (clrN ac 8) nx) := hD
    exact W.vret hx hb hr (fun t ht hW => ⟨⟨((0, (65535), (65535), (-1), 0), (0, tc), (be, co, ap), tr, clrN ac 8, nx), rfl, rfl, by rw [ht]; exact hP, hD⟩, hS.F ht⟩) hS.2.2 dX3_forgetAll_58
  · skip
    have ha := ctr_lt (N := 8) rfl (by decide) hk c5_0
    refine lv_aload_n hx hb dX3_forgetAll_8 rfl (lv_at hl 0 rfl) ?_
    refine va_get (D := (dC, dI)) (ci := 3) (v := .ref (A 1)) (C := RX3) (T := TX3) (N := 9) hx hb hts hinX3 hown hK hP 0 rfl rfl 0 (by decide) (hts _ (List.mem_of_getElem? (i := 1) rfl)) (fun _ h9 => h9) rfl dX3_forgetAll_9 ?_
    refine lv_iload_n hx hb dX3_forgetAll_12 rfl (lv_at hl 1 rfl) ?_
    refine va_aldq hx hb hK hP 1 1 rfl rfl (vp_in_nI (show a < 8 by omega) (by decide)) dX3_forgetAll_13 ?_
    rw [nI_clamp (show a < 2 ^ 31 by have := (show a < 8 by omega); omega)]
    refine lv_iconst (v := 0) hx hb dX3_forgetAll_14 (by decide) ?_
    refine va_putN (D := (dC, dI)) (host := RX3) (ci := 0) (v := .int 0) (ty := .boolean) (C := RX0) (T := TX0) (N := 5) hx hb hts hinX0 tyX0 tyX0_ok nmX0 hown hK hP hD hS (8 + a) (hf_act ha) rfl 0 (by decide) (va_Nw.use rfl (hX.2.1 _ (List.mem_of_getElem? (i := 4) rfl))) (fun _ h9 => h9) rfl (by decide +kernel) rfl rfl (Nat.le_of_ble_eq_true rfl) dX3_forgetAll_15 (fun H locs hP hD hS => ?_)
    rw [hf_setA 0 (by decide) ha] at hP hD
    rw [show up2 (clrN ac a) a 0 0 = clrN ac (a + 1) from clrN_s ac a] at hP hD
    have hP : va_P (dC, dI) vwCl (hfL A cI cQ cl st go hi ma ct tc be co ap tr (clrN ac (a + 1)) nx) H := hP
    have hD : va_D V (hfL A cI cQ cl st go hi ma ct tc be co ap tr (clrN ac (a + 1)) nx) := hD
    obtain ⟨y1, ey1⟩ : ∃ y : Int32, y = (nI a) + 1 := ⟨_, rfl⟩
    refine lv_iinc (v := y1) (lv' := [(1, .int y1), (0, .ref (A 0))]) hx hb dX3_forgetAll_18 hl (k := 1) rfl (by rw [ey1]; rfl) (by decide) rfl (fun ls hl => ?_)
    obtain rfl : y1 = nI (a + 1) := ey1.trans (nI_1 a)
    refine lv_goto (tgt := 2) hx hb dX3_forgetAll_21 (by decide) ?_
    exact ih ls H locs ⟨hP, hD, hS, trivial, lv_sub hl [1, 0] rfl⟩ ha
set_option maxHeartbeats 4000000 in
set_option maxRecDepth 100000 in
/-- Sight.open(states) -/
theorem c_X1_open (l : Launch) (dC : Nat → ClassId) (dI : Nat → Nat → Nat) (A : Nat → Nat) (cI cQ : ClassId) (σ : HS) (sz : Nat) (b : Int32) : Met l yX1_open wsX1_open ({ frames := 0, cells := 0, slots := 0, locals := 0 }) (va_Pc [.ref (A 4), .int b] (hfF dC dI A cI cQ sz σ)) (va_Qv (fun τ : HS => τ = (σ.1, σ.2.1, (b, fillN (coS σ) (fun j => nI j) 16, fillN (apS σ) (fun _ => 0) 16), σ.2.2.2)) (hfB dC dI A cI cQ (va_A (hfW A cI cQ σ) sz)) (va_A (hfW A cI cQ σ) sz)) 0 0 (va_A (hfW A cI cQ σ) sz) := by
  obtain ⟨⟨cl, st, go, hi, ma⟩, ⟨ct, tc⟩, ⟨be, co, ap⟩, tr, ac, nx⟩ := σ
  refine Met.ofW (cc := cX1_open) (maxL := 3) (ret := none) (by decide) rfl ?_
  intro p e s m args below meth c s₁ B hml hv
  obtain ⟨rfl, hsz, hP, hX, hD0⟩ := hv
  have hx := B.exec
  have hb := B.bytes
  have hr := B.returns
  have hts := atoms_spec (ws := wsX1_open) B.pre
  have hown : s.vm.findClass RX1 = some m.cls := findClass_of_methodNamed B.named
  have hlocks := B.notSynchronized
  have hK := hX.1
  have hinX1 : ∀ w ∈ wsX10, w ∈ wsX1_open := fun _ h => List.mem_cons_of_mem _ (List.mem_append_right _ h)
  subst hsz
  have hD := hD0.self (sz := s.heap.size)
  generalize hAe : va_A (hfW A cI cQ _) s.heap.size = V at hD ⊢
  have hA : ∀ q : Nat, s.heap.size ≤ q → V q := fun q h => by rw [← hAe]; exact Or.inr h
  have hS : va_S V s.heap s.heap [] := va_S.rf
  have hl := lv_entry ([.ref (A 4), .int b]) (n := 3) (Nat.le_of_ble_eq_true rfl)
  rw [lg_entry_eq]
  generalize (lg_sl ([.ref (A 4), .int b]) ++ List.replicate (3 - (lg_sl ([.ref (A 4), .int b])).length) Slot.unset).toArray = ls at hl ⊢
  have hl : lv_has ls 3 [(0, .ref (A 4)), (1, .int b)] := hl
  have hP : va_P (dC, dI) vwCl (hfL A cI cQ cl st go hi ma ct tc be co ap tr ac nx) s.heap := hP
  have hD : va_D V (hfL A cI cQ cl st go hi ma ct tc be co ap tr ac nx) := hD
  refine lv_aload_n hx hb dX1_open_0 rfl (lv_at hl 0 rfl) ?_
  refine lv_iload_n hx hb dX1_open_1 rfl (lv_at hl 1 rfl) ?_
  refine va_put (D := (dC, dI)) (ci := 1) (v := .int b) (ty := .int) (C := RX1) (T := TX1) (N := 3) hx hb hts hinX1 tyX1 tyX1_ok nmX1 hown hK hP hD hS 4 rfl rfl 2 (by decide) (hts _ (List.mem_of_getElem? (i := 1) rfl)) (fun _ h9 => h9) rfl (by decide +kernel) rfl rfl (Nat.le_of_ble_eq_true rfl) dX1_open_2 (fun H locs hP hD hS => ?_)
  have hP : va_P (dC, dI) vwCl (hfL A cI cQ cl st go hi ma ct tc b co ap tr ac nx) H := hP
  have hD : va_D V (hfL A cI cQ cl st go hi ma ct tc b co ap tr ac nx) := hD
  refine lv_iconst (v := 0) hx hb dX1_open_5 (by decide) ?_
  refine lv_istore_n (lv' := [(2, .int 0), (0, .ref (A 4)), (1, .int b)]) hx hb dX1_open_6 rfl hl (by decide) rfl (fun ls hl => ?_)
  refine w_loopH (pc := 7) 16 (fun k ls H locs => va_P (dC, dI) vwCl (hfL A cI cQ cl st go hi ma ct tc b (fillN co (fun j => nI j) k) (fillN ap (fun _ => 0) k) tr ac nx) H ∧ va_D V (hfL A cI cQ cl st go hi ma ct tc b (fillN co (fun j => nI j) k) (fillN ap (fun _ => 0) k) tr ac nx) ∧ va_S V s.heap H locs ∧ True ∧ lv_has ls 3 [(0, .ref (A 4)), (1, .int b), (2, .int (nI k))]) ?_ 0 (Nat.zero_le _) ls _ _ ⟨?_, ?_, hS, trivial, lv_sub hl [1, 2, 0] rfl⟩
  rotate_left
  · rw [fillN_0, fillN_0]; exact hP
  · rw [fillN_0, fillN_0]; exact hD
  intro k ls H locs hk hI ih
  obtain ⟨hP, hD, hS, hEx, hl⟩ := hI
  refine lv_iload_n hx hb dX1_open_7 rfl (lv_at hl 2 rfl) ?_
  refine lv_bipush (v := 16) hx hb dX1_open_8 (by decide) ?_
  refine lv_icmp_ge (tgt := 33) hx hb dX1_open_10 (by decide) (fun c10_0 => ?_) (fun c10_0 => ?_)
  · skip
    obtain rfl := ctr_ge (N := 16) rfl (by decide) hk c10_0
    exact W.vret hx hb hr (fun t ht hW => ⟨⟨((cl, st, go, hi, ma), (ct, tc), (b, fillN co (fun j => nI j) 16, fillN ap (fun _ => 0) 16), tr, ac, nx), rfl, rfl, by rw [ht]; exact hP, hD⟩, hS.F ht⟩) hS.2.2 dX1_open_33
  · skip
    have hlt := ctr_lt (N := 16) rfl (by decide) hk c10_0
    refine lv_aload_n hx hb dX1_open_13 rfl (lv_at hl 0 rfl) ?_
    refine va_get (D := (dC, dI)) (ci := 1) (v := .ref (A 5)) (C := RX1) (T := TX1) (N := 3) hx hb hts hinX1 hown hK hP 4 rfl rfl 0 (by decide) (hts _ (List.mem_of_getElem? (i := 2) rfl)) (fun _ h9 => h9) rfl dX1_open_14 ?_
    refine lv_iload_n hx hb dX1_open_17 rfl (lv_at hl 2 rfl) ?_
    refine lv_iload_n hx hb dX1_open_18 rfl (lv_at hl 2 rfl) ?_
    refine va_iast hx hb hK hP hD hS 5 0 rfl rfl (vp_in_nI (show k < 64 by omega) (by decide)) dX1_open_19 (fun H locs hP hD hS => ?_)
    rw [nI_clamp (show k < 2 ^ 31 by have := (show k < 64 by omega); omega)] at hP hD
    rw [show upd (fillN co (fun j => nI j) k) k (nI k) = fillN co (fun j => nI j) (k + 1) from fillN_s co (fun j => nI j) k rfl] at hP hD
    have hP : va_P (dC, dI) vwCl (hfL A cI cQ cl st go hi ma ct tc b (fillN co (fun j => nI j) (k + 1)) (fillN ap (fun _ => 0) k) tr ac nx) H := hP
    have hD : va_D V (hfL A cI cQ cl st go hi ma ct tc b (fillN co (fun j => nI j) (k + 1)) (fillN ap (fun _ => 0) k) tr ac nx) := hD
    refine lv_aload_n hx hb dX1_open_20 rfl (lv_at hl 0 rfl) ?_
    refine va_get (D := (dC, dI)) (ci := 1) (v := .ref (A 6)) (C := RX1) (T := TX1) (N := 3) hx hb hts hinX1 hown hK hP 4 rfl rfl 1 (by decide) (hts _ (List.mem_of_getElem? (i := 3) rfl)) (fun _ h9 => h9) rfl dX1_open_21 ?_
    refine lv_iload_n hx hb dX1_open_24 rfl (lv_at hl 2 rfl) ?_
    refine lv_iconst (v := 0) hx hb dX1_open_25 (by decide) ?_
    refine va_iast hx hb hK hP hD hS 6 0 rfl rfl (vp_in_nI (show k < 16 by omega) (by decide)) dX1_open_26 (fun H locs hP hD hS => ?_)
    rw [nI_clamp (show k < 2 ^ 31 by have := (show k < 16 by omega); omega)] at hP hD
    rw [show upd (fillN ap (fun _ => 0) k) k 0 = fillN ap (fun _ => 0) (k + 1) from fillN_s ap (fun _ => 0) k rfl] at hP hD
    have hP : va_P (dC, dI) vwCl (hfL A cI cQ cl st go hi ma ct tc b (fillN co (fun j => nI j) (k + 1)) (fillN ap (fun _ => 0) (k + 1)) tr ac nx) H := hP
    have hD : va_D V (hfL A cI cQ cl st go hi ma ct tc b (fillN co (fun j => nI j) (k + 1)) (fillN ap (fun _ => 0) (k + 1)) tr ac nx) := hD
    obtain ⟨y1, ey1⟩ : ∃ y : Int32, y = (nI k) + 1 := ⟨_, rfl⟩
    refine lv_iinc (v := y1) (lv' := [(2, .int y1), (0, .ref (A 4)), (1, .int b)]) hx hb dX1_open_27 hl (k := 2) rfl (by rw [ey1]; rfl) (by decide) rfl (fun ls hl => ?_)
    obtain rfl : y1 = nI (k + 1) := ey1.trans (nI_1 k)
    refine lv_goto (tgt := 7) hx hb dX1_open_30 (by decide) ?_
    exact ih ls H locs ⟨hP, hD, hS, trivial, lv_sub hl [1, 2, 0] rfl⟩ hlt
set_option maxHeartbeats 4000000 in
set_option maxRecDepth 100000 in
/-- Sight.firstAlike() -/
theorem c_X1_firstAlike (l : Launch) (dC : Nat → ClassId) (dI : Nat → Nat → Nat) (A : Nat → Nat) (cI cQ : ClassId) (σ : HS) : Met l yX1_firstAlike wsX1_firstAlike ({ frames := 1, cells := 0, slots := 0, locals := 21 }) (va_Pc [.ref (A 4)] (hfP dC dI A cI cQ σ)) (vp_Si (fun r => r = o2i ((List.range 256).find? (twP (beS σ) (apS σ))))) 0 0 (fun _ => False) := by
  refine Met.ofW (cc := cX1_firstAlike) (maxL := 3) (ret := (some .int)) (by decide) rfl ?_
  intro p e s m args below meth c s₁ B hml hv
  obtain ⟨rfl, hP, hX⟩ := hv
  have hx := B.exec
  have hb := B.bytes
  have hr := B.returns
  have hts := atoms_spec (ws := wsX1_firstAlike) B.pre
  have hown : s.vm.findClass RX1 = some m.cls := findClass_of_methodNamed B.named
  have hlocks := B.notSynchronized
  have hK := hX.1
  have hinX1 : ∀ w ∈ wsX10, w ∈ wsX1_firstAlike := fun _ h => List.mem_cons_of_mem _ (List.mem_append_right _ h)
  have hl := lv_entry ([.ref (A 4)]) (n := 3) (Nat.le_of_ble_eq_true rfl)
  rw [lg_entry_eq]
  generalize (lg_sl ([.ref (A 4)]) ++ List.replicate (3 - (lg_sl ([.ref (A 4)])).length) Slot.unset).toArray = ls at hl ⊢
  have hl : lv_has ls 3 [(0, .ref (A 4))] := hl
  refine lv_iconst (v := 0) hx hb dX1_firstAlike_0 (by decide) ?_
  refine lv_istore_n (lv' := [(1, .int 0), (0, .ref (A 4))]) hx hb dX1_firstAlike_1 rfl hl (by decide) rfl (fun ls hl => ?_)
  refine w_loopP (pc := 2) 16 (fun i ls => (∀ q, q < 16 * i → (twP (beS σ) (apS σ)) q = false) ∧ lv_has ls 3 [(0, .ref (A 4)), (1, .int (nI i))]) ?_ 0 (Nat.zero_le _) ls ⟨fun q hq => absurd hq (by omega), lv_sub hl [1, 0] rfl⟩
  intro i ls hk hI ih
  obtain ⟨hq, hl⟩ := hI
  refine lv_iload_n hx hb dX1_firstAlike_2 rfl (lv_at hl 1 rfl) ?_
  refine lv_bipush (v := 16) hx hb dX1_firstAlike_3 (by decide) ?_
  refine lv_icmp_ge (tgt := 72) hx hb dX1_firstAlike_5 (by decide) (fun c5_0 => ?_) (fun c5_0 => ?_)
  · skip
    obtain rfl := ctr_ge (N := 16) rfl (by decide) hk c5_0
    refine lv_iconst (v := (-1)) hx hb dX1_firstAlike_72 (by decide) ?_
    exact W.iret hx hb hr (fun t ht hW => ⟨_, rfl, by show _ = o2i ((List.range 256).find? (twP (beS σ) (apS σ))); rw [find_no hq]; rfl, ht⟩) (fun q h => nomatch h) dX1_firstAlike_73
  · skip
    have hi := ctr_lt (N := 16) rfl (by decide) hk c5_0
    refine lv_iload_n hx hb dX1_firstAlike_8 rfl (lv_at hl 1 rfl) ?_
    refine lv_iconst (v := 1) hx hb dX1_firstAlike_9 (by decide) ?_
    refine lv_iadd hx hb dX1_firstAlike_10 ?_
    refine lv_topi (fun y1 ey1 => ?_)
    obtain rfl : y1 = nI (i + 1) := ey1.trans (nI_1 i)
    refine lv_istore_n (lv' := [(2, .int (nI (i + 1))), (0, .ref (A 4)), (1, .int (nI i))]) hx hb dX1_firstAlike_11 rfl hl (by decide) rfl (fun ls hl => ?_)
    have hq1 : ∀ q, q < 16 * i + (i + 1) → (twP (beS σ) (apS σ)) q = false := fun q h => twP_lo hq h
    refine w_loopP (pc := 12) 16 (fun j ls => i < j ∧ (∀ q, q < 16 * i + j → (twP (beS σ) (apS σ)) q = false) ∧ lv_has ls 3 [(0, .ref (A 4)), (1, .int (nI i)), (2, .int (nI j))]) ?_ (i + 1) (by omega) ls ⟨by omega, hq1, lv_sub hl [1, 2, 0] rfl⟩
    intro j ls hk2 hI ih2
    obtain ⟨hij, hq, hl⟩ := hI
    refine lv_iload_n hx hb dX1_firstAlike_12 rfl (lv_at hl 2 rfl) ?_
    refine lv_bipush (v := 16) hx hb dX1_firstAlike_13 (by decide) ?_
    refine lv_icmp_ge (tgt := 66) hx hb dX1_firstAlike_15 (by decide) (fun c15_2 => ?_) (fun c15_2 => ?_)
    · skip
      obtain rfl := ctr_ge (N := 16) rfl (by decide) hk2 c15_2
      obtain ⟨y3, ey3⟩ : ∃ y : Int32, y = (nI i) + 1 := ⟨_, rfl⟩
      refine lv_iinc (v := y3) (lv' := [(1, .int y3), (0, .ref (A 4)), (2, .int (nI 16))]) hx hb dX1_firstAlike_66 hl (k := 1) rfl (by rw [ey3]; rfl) (by decide) rfl (fun ls hl => ?_)
      obtain rfl : y3 = nI (i + 1) := ey3.trans (nI_1 i)
      refine lv_goto (tgt := 2) hx hb dX1_firstAlike_69 (by decide) ?_
      exact ih ls ⟨by rw [show 16 * (i + 1) = 16 * i + 16 by omega]; exact hq, lv_sub hl [1, 0] rfl⟩ hi
    · skip
      have hj := ctr_lt (N := 16) rfl (by decide) hk2 c15_2
      refine lv_iload_n hx hb dX1_firstAlike_18 rfl (lv_at hl 1 rfl) ?_
      refine lv_aload_n hx hb dX1_firstAlike_19 rfl (lv_at hl 0 rfl) ?_
      refine va_get (D := (dC, dI)) (ci := 1) (v := .int (beS σ)) (C := RX1) (T := TX1) (N := 3) hx hb hts hinX1 hown hK hP 4 rfl rfl 2 (by decide) (hts _ (List.mem_of_getElem? (i := 1) rfl)) (fun _ h9 => h9) rfl dX1_firstAlike_20 ?_
      refine vp_callSi (va_Run.run (va_runSN (As := [.int (nI i), .int (beS σ)]) (rest := []) ⟨hx, hb, hml, hown, hts⟩ (c_X3_isIn l (k := i) (by omega) (beS σ)) ⟨va_cnB (host := RX3) 2 hts gX1_firstAlike_X3_isIn_n31 rfl rfl rfl (hX.2.1 _ (List.mem_of_getElem? (i := 9) rfl)) (hts _ (List.mem_of_getElem? (i := 4) rfl)) (by decide +kernel) ⟨Nat.le_of_ble_eq_true rfl, Nat.le_of_ble_eq_true rfl⟩, hts _ (List.mem_of_getElem? (i := 3) rfl), trivial⟩ ⟨bl_T, fun U hU hW => ⟨rfl, trivial⟩⟩ rfl rfl hl.1 rfl (lv_room (Nat.le_of_ble_eq_true rfl)) dX1_firstAlike_23 ⟨Nat.zero_le _, Nat.zero_le _⟩)) (fun r er => ?_)
      subst er
      refine lv_if_eq (tgt := 60) hx hb dX1_firstAlike_26 (by decide) (fun c26_4 => ?_) (fun c26_4 => ?_)
      · skip
        obtain ⟨y5, ey5⟩ : ∃ y : Int32, y = (nI j) + 1 := ⟨_, rfl⟩
        refine lv_iinc (v := y5) (lv' := [(2, .int y5), (0, .ref (A 4)), (1, .int (nI i))]) hx hb dX1_firstAlike_60 hl (k := 2) rfl (by rw [ey5]; rfl) (by decide) rfl (fun ls hl => ?_)
        obtain rfl : y5 = nI (j + 1) := ey5.trans (nI_1 j)
        refine lv_goto (tgt := 12) hx hb dX1_firstAlike_63 (by decide) ?_
        exact ih2 ls ⟨by omega, lt_s hq (twP_0 hi hj (b2i_0.mp c26_4)), lv_sub hl [1, 2, 0] rfl⟩ hj
      · skip
        refine lv_iload_n hx hb dX1_firstAlike_29 rfl (lv_at hl 2 rfl) ?_
        refine lv_aload_n hx hb dX1_firstAlike_30 rfl (lv_at hl 0 rfl) ?_
        refine va_get (D := (dC, dI)) (ci := 1) (v := .int (beS σ)) (C := RX1) (T := TX1) (N := 3) hx hb hts hinX1 hown hK hP 4 rfl rfl 2 (by decide) (hts _ (List.mem_of_getElem? (i := 1) rfl)) (fun _ h9 => h9) rfl dX1_firstAlike_31 ?_
        refine vp_callSi (va_Run.run (va_runSN (As := [.int (nI j), .int (beS σ)]) (rest := []) ⟨hx, hb, hml, hown, hts⟩ (c_X3_isIn l (k := j) (by omega) (beS σ)) ⟨va_cnB (host := RX3) 2 hts gX1_firstAlike_X3_isIn_n31 rfl rfl rfl (hX.2.1 _ (List.mem_of_getElem? (i := 9) rfl)) (hts _ (List.mem_of_getElem? (i := 4) rfl)) (by decide +kernel) ⟨Nat.le_of_ble_eq_true rfl, Nat.le_of_ble_eq_true rfl⟩, hts _ (List.mem_of_getElem? (i := 3) rfl), trivial⟩ ⟨bl_T, fun U hU hW => ⟨rfl, trivial⟩⟩ rfl rfl hl.1 rfl (lv_room (Nat.le_of_ble_eq_true rfl)) dX1_firstAlike_34 ⟨Nat.zero_le _, Nat.zero_le _⟩)) (fun r er => ?_)
        subst er
        refine lv_if_eq (tgt := 60) hx hb dX1_firstAlike_37 (by decide) (fun c37_6 => ?_) (fun c37_6 => ?_)
        · skip
          obtain ⟨y7, ey7⟩ : ∃ y : Int32, y = (nI j) + 1 := ⟨_, rfl⟩
          refine lv_iinc (v := y7) (lv' := [(2, .int y7), (0, .ref (A 4)), (1, .int (nI i))]) hx hb dX1_firstAlike_60 hl (k := 2) rfl (by rw [ey7]; rfl) (by decide) rfl (fun ls hl => ?_)
          obtain rfl : y7 = nI (j + 1) := ey7.trans (nI_1 j)
          refine lv_goto (tgt := 12) hx hb dX1_firstAlike_63 (by decide) ?_
          exact ih2 ls ⟨by omega, lt_s hq (twP_1 hi hj (b2i_0.mp c37_6)), lv_sub hl [1, 2, 0] rfl⟩ hj
        · skip
          refine lv_iload_n hx hb dX1_firstAlike_40 rfl (lv_at hl 2 rfl) ?_
          refine lv_aload_n hx hb dX1_firstAlike_41 rfl (lv_at hl 0 rfl) ?_
          refine va_get (D := (dC, dI)) (ci := 1) (v := .ref (A 6)) (C := RX1) (T := TX1) (N := 3) hx hb hts hinX1 hown hK hP 4 rfl rfl 1 (by decide) (hts _ (List.mem_of_getElem? (i := 2) rfl)) (fun _ h9 => h9) rfl dX1_firstAlike_42 ?_
          refine lv_iload_n hx hb dX1_firstAlike_45 rfl (lv_at hl 1 rfl) ?_
          refine va_iald hx hb hK hP 6 0 rfl rfl (vp_in_nI (show i < 16 by omega) (by decide)) dX1_firstAlike_46 ?_
          rw [nI_clamp (show i < 2 ^ 31 by have := (show i < 16 by omega); omega)]
          refine vp_callSi (va_Run.run (va_runSN (As := [.int (nI j), .int (apS σ i)]) (rest := []) ⟨hx, hb, hml, hown, hts⟩ (c_X3_isIn l (k := j) (by omega) (apS σ i)) ⟨va_cnB (host := RX3) 2 hts gX1_firstAlike_X3_isIn_n31 rfl rfl rfl (hX.2.1 _ (List.mem_of_getElem? (i := 9) rfl)) (hts _ (List.mem_of_getElem? (i := 4) rfl)) (by decide +kernel) ⟨Nat.le_of_ble_eq_true rfl, Nat.le_of_ble_eq_true rfl⟩, hts _ (List.mem_of_getElem? (i := 3) rfl), trivial⟩ ⟨bl_T, fun U hU hW => ⟨rfl, trivial⟩⟩ rfl rfl hl.1 rfl (lv_room (Nat.le_of_ble_eq_true rfl)) dX1_firstAlike_47 ⟨Nat.zero_le _, Nat.zero_le _⟩)) (fun r er => ?_)
          subst er
          refine lv_if_ne (tgt := 60) hx hb dX1_firstAlike_50 (by decide) (fun c50_8 => ?_) (fun c50_8 => ?_)
          · skip
            obtain ⟨y9, ey9⟩ : ∃ y : Int32, y = (nI j) + 1 := ⟨_, rfl⟩
            refine lv_iinc (v := y9) (lv' := [(2, .int y9), (0, .ref (A 4)), (1, .int (nI i))]) hx hb dX1_firstAlike_60 hl (k := 2) rfl (by rw [ey9]; rfl) (by decide) rfl (fun ls hl => ?_)
            obtain rfl : y9 = nI (j + 1) := ey9.trans (nI_1 j)
            refine lv_goto (tgt := 12) hx hb dX1_firstAlike_63 (by decide) ?_
            exact ih2 ls ⟨by omega, lt_s hq (twP_2 hi hj (b2i_n0.mp c50_8)), lv_sub hl [1, 2, 0] rfl⟩ hj
          · skip
            refine lv_bipush (v := 16) hx hb dX1_firstAlike_53 (by decide) ?_
            refine lv_iload_n hx hb dX1_firstAlike_55 rfl (lv_at hl 1 rfl) ?_
            refine lv_imul hx hb dX1_firstAlike_56 ?_
            refine lv_topi (fun y10 ey10 => ?_)
            obtain rfl : y10 = nI (16 * i) := ey10.trans (pk_mul 16 i)
            refine lv_iload_n hx hb dX1_firstAlike_57 rfl (lv_at hl 2 rfl) ?_
            refine lv_iadd hx hb dX1_firstAlike_58 ?_
            refine lv_topi (fun y11 ey11 => ?_)
            obtain rfl : y11 = nI (16 * i + j) := ey11.trans (nI_add (16 * i) j)
            exact W.iret hx hb hr (fun t ht hW => ⟨_, rfl, by show _ = o2i ((List.range 256).find? (twP (beS σ) (apS σ))); rw [find_at (show 16 * i + j < 256 by omega) (twP_t hi hj hij (b2i_n0.mp c26_4) (b2i_n0.mp c37_6) (b2i_0.mp c50_8)) hq]; rfl, ht⟩) (fun q h => nomatch h) dX1_firstAlike_59
