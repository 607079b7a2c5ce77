set_option maxHeartbeats 4000000 in
set_option maxRecDepth 100000 in
/-- twins -/
theorem o_X3_twins (l : Launch) (dC : Nat → ClassId) (dI : Nat → Nat → Nat) (A : Nat → Nat) (cI cQ : ClassId) (σ : HS) (sz : Nat) (y : Nat → Nat → Nat) (hy1 : ∀ a, a < 8 → ∀ j, j < 16 → nxS σ a j = nI (y a j) ∧ y a j < 16) {q2 : Nat} (h : ((List.range 256).find? (twP (stS σ) (lkS σ y 3 (stS σ) (fun j => j) (fillN (apS σ) (fun _ => 0) 16)))) = some q2) : Met l yX3_twins wsX3_twins RMo (va_Pc [.ref (A 0)] (hfF dC dI A cI cQ sz σ)) (va_Qi (fun (r : Int32) (τ : HS) => r = nI q2 ∧ ∃ co3, τ = (σ.1, σ.2.1, (stS σ, co3, lkS σ y 3 (stS σ) (fun j => j) (fillN (apS σ) (fun _ => 0) 16)), σ.2.2.2)) (hfB dC dI A cI cQ (va_A (hfW A cI cQ σ) sz)) (va_A (hfW A cI cQ σ) sz)) 0 0 (va_A (hfW A cI cQ σ) sz) := by
  obtain ⟨⟨cl, st, go, hi, ma⟩, ⟨ct, tc⟩, ⟨be, co, ap⟩, tr, ac, nx⟩ := σ
  refine Met.ofW (cc := cX3_twins) (maxL := 2) (ret := (some .int)) (by decide) rfl ?_
  intro p e s m args below meth c s₁ B hml hv
  obtain ⟨rfl, hsz, hP, hX, hD0⟩ := hv
  have hx := B.exec
  have hb := B.bytes
  have hr := B.returns
  have hts := atoms_spec (ws := wsX3_twins) B.pre
  have hown : s.vm.findClass RX3 = some m.cls := findClass_of_methodNamed B.named
  have hlocks := B.notSynchronized
  have hK := hX.1
  have hinX3 : ∀ w ∈ wsX30, w ∈ wsX3_twins := fun _ h => List.mem_cons_of_mem _ (List.mem_append_left _ (List.mem_append_left _ (List.mem_append_left _ (List.mem_append_right _ h))))
  subst hsz
  have hD := hD0.self (sz := s.heap.size)
  generalize hAe : va_A (hfW A cI cQ _) s.heap.size = V at hD ⊢
  have hA : ∀ q : Nat, s.heap.size ≤ q → V q := fun q h => by rw [← hAe]; exact Or.inr h
  have hS : va_S V s.heap s.heap [] := va_S.rf
  have hl := lv_entry ([.ref (A 0)]) (n := 2) (Nat.le_of_ble_eq_true rfl)
  rw [lg_entry_eq]
  generalize (lg_sl ([.ref (A 0)]) ++ List.replicate (2 - (lg_sl ([.ref (A 0)])).length) Slot.unset).toArray = ls at hl ⊢
  have hl : lv_has ls 2 [(0, .ref (A 0))] := hl
  have hP : va_P (dC, dI) vwCl (hfL A cI cQ cl st go hi ma ct tc be co ap tr ac nx) s.heap := hP
  have hD : va_D V (hfL A cI cQ cl st go hi ma ct tc be co ap tr ac nx) := hD
  have hy1 : ∀ a, a < 8 → ∀ j, j < 16 → nx a j = nI (y a j) ∧ y a j < 16 := hy1
  have h : ((List.range 256).find? (twP st (lkS ((cl, st, go, hi, ma), (ct, tc), (be, co, ap), tr, ac, nx) y 3 st (fun j => j) (fillN ap (fun _ => 0) 16)))) = some q2 := h
  refine lv_aload_n hx hb dX3_twins_0 rfl (lv_at hl 0 rfl) ?_
  refine va_get (D := (dC, dI)) (ci := 3) (v := .ref (A 4)) (C := RX3) (T := TX3) (N := 9) hx hb hts hinX3 hown hK hP 0 rfl rfl 2 (by decide) (hts _ (List.mem_of_getElem? (i := 3) rfl)) (fun _ h9 => h9) rfl dX3_twins_1 ?_
  refine lv_aload_n hx hb dX3_twins_4 rfl (lv_at hl 0 rfl) ?_
  refine va_get (D := (dC, dI)) (ci := 3) (v := .int st) (C := RX3) (T := TX3) (N := 9) hx hb hts hinX3 hown hK hP 0 rfl rfl 5 (by decide) (hts _ (List.mem_of_getElem? (i := 4) rfl)) (fun _ h9 => h9) rfl dX3_twins_5 ?_
  have hFc := hf_free (σ := ((cl, st, go, hi, ma), (ct, tc), (be, co, ap), tr, ac, nx)) hD hS hA
  refine va_callv (va_runV (As := [.int st]) (rest := []) ⟨hx, hb, hml, hown, hts⟩ (c_X1_open l dC dI A cI cQ ((cl, st, go, hi, ma), (ct, tc), (be, co, ap), tr, ac, nx) s.heap.size st) (cwV 1 hts gX3_twins_X1_open rfl rfl rfl (by decide +kernel) ⟨Nat.le_of_ble_eq_true rfl, Nat.le_of_ble_eq_true rfl⟩) ⟨bl_F, va_recv hK hP (ci := 1) (q0 := 4) rfl rfl, fun U hU hW => ⟨rfl, by rw [hU], by rw [hU]; exact hP, hX.warm hW, hf_any hD⟩⟩ rfl rfl hl.1 rfl (lv_room (Nat.le_of_ble_eq_true rfl)) dX3_twins_8 ⟨Nat.zero_le _, Nat.zero_le _⟩) hS (fun q _ h => hFc q h) hFc (fun u t H locs ht hvm hw hB hz1 hk1 hS => ?_)
  obtain ⟨hP1, hD1⟩ := hB
  rw [ht] at hP1
  subst hw
  have hP : va_P (dC, dI) vwCl (hfL A cI cQ cl st go hi ma ct tc st (fillN co (fun j => nI j) 16) (fillN ap (fun _ => 0) 16) tr ac nx) H := hP1
  have hD : va_D V (hfL A cI cQ cl st go hi ma ct tc st (fillN co (fun j => nI j) 16) (fillN ap (fun _ => 0) 16) tr ac nx) := hf_weak hD1 hFc
  clear hP1 hD1 hFc
  refine lv_aload_n hx hb dX3_twins_11 rfl (lv_at hl 0 rfl) ?_
  refine lv_aload_n hx hb dX3_twins_12 rfl (lv_at hl 0 rfl) ?_
  refine va_get (D := (dC, dI)) (ci := 3) (v := .int st) (C := RX3) (T := TX3) (N := 9) hx hb hts hinX3 hown hK hP 0 rfl rfl 5 (by decide) (hts _ (List.mem_of_getElem? (i := 4) rfl)) (fun _ h9 => h9) rfl dX3_twins_13 ?_
  refine lv_iconst (v := 0) hx hb dX3_twins_16 (by decide) ?_
  have hFc := hf_free (σ := ((cl, st, go, hi, ma), (ct, tc), (st, fillN co (fun j => nI j) 16, fillN ap (fun _ => 0) 16), tr, ac, nx)) hD hS hA
  refine va_callv (va_runV (As := [.int st, .int (nI 0)]) (rest := []) ⟨hx, hb, hml, hown, hts⟩ (c_X3_look l dC dI A cI cQ y 3 ((cl, st, go, hi, ma), (ct, tc), (st, fillN co (fun j => nI j) 16, fillN ap (fun _ => 0) 16), tr, ac, nx) H.size 0 st (fun j => j) rfl (fun j hj => ⟨show fillN co (fun j => nI j) 16 (16 * 0 + j) = nI j by rw [show 16 * 0 + j = j by omega]; exact fillN_lt _ _ hj, hj⟩) hy1) (cwV 2 hts gX3_twins_X3_look rfl rfl rfl (by decide +kernel) ⟨Nat.le_of_ble_eq_true rfl, Nat.le_of_ble_eq_true rfl⟩) ⟨bl_F, va_recv hK hP (ci := 3) (q0 := 0) rfl rfl, fun U hU hW => ⟨rfl, by rw [hU], by rw [hU]; exact hP, hX.warm hW, hf_any hD⟩⟩ rfl rfl hl.1 rfl (lv_room (Nat.le_of_ble_eq_true rfl)) dX3_twins_17 ⟨Nat.zero_le _, Nat.zero_le _⟩) hS (fun q _ h => hFc q h) hFc (fun u t H locs ht hvm hw hB hz1 hk1 hS => ?_)
  obtain ⟨hP1, hD1⟩ := hB
  rw [ht] at hP1
  obtain ⟨co3, rfl, hco3⟩ := hw
  have hP : va_P (dC, dI) vwCl (hfL A cI cQ cl st go hi ma ct tc st co3 (lkS ((cl, st, go, hi, ma), (ct, tc), (be, co, ap), tr, ac, nx) y 3 st (fun j => j) (fillN ap (fun _ => 0) 16)) tr ac nx) H := hP1
  have hD : va_D V (hfL A cI cQ cl st go hi ma ct tc st co3 (lkS ((cl, st, go, hi, ma), (ct, tc), (be, co, ap), tr, ac, nx) y 3 st (fun j => j) (fillN ap (fun _ => 0) 16)) tr ac nx) := hf_weak hD1 hFc
  clear hP1 hD1 hFc
  refine lv_aload_n hx hb dX3_twins_20 rfl (lv_at hl 0 rfl) ?_
  refine va_get (D := (dC, dI)) (ci := 3) (v := .ref (A 4)) (C := RX3) (T := TX3) (N := 9) hx hb hts hinX3 hown hK hP 0 rfl rfl 2 (by decide) (hts _ (List.mem_of_getElem? (i := 3) rfl)) (fun _ h9 => h9) rfl dX3_twins_21 ?_
  refine vp_callSi (W.runV (As := []) (rest := []) ⟨hx, hb, hml, hown, hts⟩ (c_X1_firstAlike l dC dI A cI cQ ((cl, st, go, hi, ma), (ct, tc), (st, co3, (lkS ((cl, st, go, hi, ma), (ct, tc), (be, co, ap), tr, ac, nx) y 3 st (fun j => j) (fillN ap (fun _ => 0) 16))), tr, ac, nx)) (cwV 0 hts gX3_twins_X1_firstAlike rfl rfl rfl (by decide +kernel) ⟨Nat.le_of_ble_eq_true rfl, Nat.le_of_ble_eq_true rfl⟩) ⟨bl_P, va_recv hK hP (ci := 1) (q0 := 4) rfl rfl, fun U hU hW => ⟨rfl, by rw [hU]; exact hP, hX.warm hW⟩⟩ rfl rfl hl.1 rfl (lv_room (Nat.le_of_ble_eq_true rfl)) dX3_twins_24 ⟨Nat.zero_le _, Nat.zero_le _⟩) (fun r er => ?_)
  obtain rfl : r = o2i ((List.range 256).find? (twP st (lkS ((cl, st, go, hi, ma), (ct, tc), (be, co, ap), tr, ac, nx) y 3 st (fun j => j) (fillN ap (fun _ => 0) 16)))) := er
  refine lv_istore_n (lv' := [(1, .int (o2i ((List.range 256).find? (twP st (lkS ((cl, st, go, hi, ma), (ct, tc), (be, co, ap), tr, ac, nx) y 3 st (fun j => j) (fillN ap (fun _ => 0) 16)))))), (0, .ref (A 0))]) hx hb dX3_twins_27 rfl hl (by decide) rfl (fun ls hl => ?_)
  refine lv_iload_n hx hb dX3_twins_28 rfl (lv_at hl 0 rfl) ?_
  refine lv_iconst (v := (-1)) hx hb dX3_twins_29 (by decide) ?_
  refine lv_icmp_ne (tgt := 43) hx hb dX3_twins_30 (by decide) (fun c30_0 => ?_) (fun c30_0 => ?_)
  · skip
    refine lv_iload_n hx hb dX3_twins_43 rfl (lv_at hl 0 rfl) ?_
    exact W.iret hx hb hr (fun t ht hW => ⟨⟨_, ((cl, st, go, hi, ma), (ct, tc), (st, co3, (lkS ((cl, st, go, hi, ma), (ct, tc), (be, co, ap), tr, ac, nx) y 3 st (fun j => j) (fillN ap (fun _ => 0) 16))), tr, ac, nx), rfl, ⟨by rw [h]; rfl, co3, rfl⟩, by rw [ht]; exact hP, hD⟩, hS.F ht⟩) hS.2.2 dX3_twins_44
  · exact absurd c30_0 (fun z => by rw [h] at z; have h9 := List.mem_range.mp (List.find?_range_eq_some.mp h).2.1; have := (o2i_none (o := some q2) (fun a h => by cases h; omega)).mp z; cases this)
set_option maxHeartbeats 4000000 in
set_option maxRecDepth 100000 in
/-- twins: it throws -/
theorem x_X3_twins_NS (l : Launch) (dC : Nat → ClassId) (dI : Nat → Nat → Nat) (A : Nat → Nat) (cI cQ : ClassId) (σ : HS) (hlt : l.stackTraces = false) (sz : Nat) (y : Nat → Nat → Nat) (hy1 : ∀ a, a < 8 → ∀ j, j < 16 → nxS σ a j = nI (y a j) ∧ y a j < 16) (h : ((List.range 256).find? (twP (stS σ) (lkS σ y 3 (stS σ) (fun j => j) (fillN (apS σ) (fun _ => 0) 16)))) = none) : vx_Met l yX3_twins wsX3_twins RMx (va_Pc [.ref (A 0)] (hfFX dC dI A cI cQ sz σ)) (va_Qi (fun _ (_ : Unit) => False) (fun _ _ => True) (va_A (hfW A cI cQ σ) sz)) (vx_X (fun τ : HS => ∃ co3, τ = (σ.1, σ.2.1, (stS σ, co3, lkS σ y 3 (stS σ) (fun j => j) (fillN (apS σ) (fun _ => 0) 16)), σ.2.2.2)) (fun E τ t => E = nNS ∧ hfB dC dI A cI cQ (va_A (hfW A cI cQ σ) sz) τ t) (va_A (hfW A cI cQ σ) sz)) 1 6 (va_A (hfW A cI cQ σ) sz) := by
  obtain ⟨⟨cl, st, go, hi, ma⟩, ⟨ct, tc⟩, ⟨be, co, ap⟩, tr, ac, nx⟩ := σ
  refine vx_ofW (cc := cX3_twins) (maxL := 2) (ret := (some .int)) (by decide) rfl ?_
  intro p e s m args below meth c s₁ B hml hnt hv
  obtain ⟨rfl, ⟨hsz, hP, hX, hD0⟩, hH⟩ := hv
  subst hsz
  have hD := hD0.self (sz := s.heap.size)
  generalize hAe : va_A (hfW A cI cQ _) s.heap.size = V at hD hH ⊢
  have hA : ∀ q : Nat, s.heap.size ≤ q → V q := fun q h => by rw [← hAe]; exact Or.inr h
  have hS : va_S V s.heap s.heap [] := va_S.rf
  have hx := B.exec
  have hb := B.bytes
  have hr := B.returns
  have hts := atoms_spec (ws := wsX3_twins) B.pre
  have hown : s.vm.findClass RX3 = some m.cls := findClass_of_methodNamed B.named
  have hlocks := B.notSynchronized
  have hK := hX.1
  have hinX3 : ∀ w ∈ wsX30, w ∈ wsX3_twins := fun _ h => List.mem_cons_of_mem _ (List.mem_append_left _ (List.mem_append_left _ (List.mem_append_left _ (List.mem_append_right _ h))))
  have hl := lv_entry ([.ref (A 0)]) (n := 2) (Nat.le_of_ble_eq_true rfl)
  rw [lg_entry_eq]
  generalize (lg_sl ([.ref (A 0)]) ++ List.replicate (2 - (lg_sl ([.ref (A 0)])).length) Slot.unset).toArray = ls at hl ⊢
  have hl : lv_has ls 2 [(0, .ref (A 0))] := hl
  have hP : va_P (dC, dI) vwCl (hfL A cI cQ cl st go hi ma ct tc be co ap tr ac nx) s.heap := hP
  have hD : va_D V (hfL A cI cQ cl st go hi ma ct tc be co ap tr ac nx) := hD
  have hy1 : ∀ a, a < 8 → ∀ j, j < 16 → nx a j = nI (y a j) ∧ y a j < 16 := hy1
  have h : ((List.range 256).find? (twP st (lkS ((cl, st, go, hi, ma), (ct, tc), (be, co, ap), tr, ac, nx) y 3 st (fun j => j) (fillN ap (fun _ => 0) 16)))) = none := h
  refine lv_aload_n hx hb dX3_twins_0 rfl (lv_at hl 0 rfl) ?_
  refine va_get (D := (dC, dI)) (ci := 3) (v := .ref (A 4)) (C := RX3) (T := TX3) (N := 9) hx hb hts hinX3 hown hK hP 0 rfl rfl 2 (by decide) (hts _ (List.mem_of_getElem? (i := 3) rfl)) (fun _ h9 => h9) rfl dX3_twins_1 ?_
  refine lv_aload_n hx hb dX3_twins_4 rfl (lv_at hl 0 rfl) ?_
  refine va_get (D := (dC, dI)) (ci := 3) (v := .int st) (C := RX3) (T := TX3) (N := 9) hx hb hts hinX3 hown hK hP 0 rfl rfl 5 (by decide) (hts _ (List.mem_of_getElem? (i := 4) rfl)) (fun _ h9 => h9) rfl dX3_twins_5 ?_
  have hFc := hf_free (σ := ((cl, st, go, hi, ma), (ct, tc), (be, co, ap), tr, ac, nx)) hD hS hA
  refine va_callv (va_runV (As := [.int st]) (rest := []) ⟨hx, hb, hml, hown, hts⟩ (c_X1_open l dC dI A cI cQ ((cl, st, go, hi, ma), (ct, tc), (be, co, ap), tr, ac, nx) s.heap.size st) (cwV 1 hts gX3_twins_X1_open rfl rfl rfl (by decide +kernel) ⟨Nat.le_of_ble_eq_true rfl, Nat.le_of_ble_eq_true rfl⟩) ⟨bl_F, va_recv hK hP (ci := 1) (q0 := 4) rfl rfl, fun U hU hW => ⟨rfl, by rw [hU], by rw [hU]; exact hP, hX.warm hW, hf_any hD⟩⟩ rfl rfl hl.1 rfl (lv_room (Nat.le_of_ble_eq_true rfl)) dX3_twins_8 ⟨Nat.zero_le _, Nat.zero_le _⟩) hS (fun q _ h => hFc q h) hFc (fun u t H locs ht hvm hw hB hz1 hk1 hS => ?_)
  obtain ⟨hP1, hD1⟩ := hB
  rw [ht] at hP1
  subst hw
  have hP : va_P (dC, dI) vwCl (hfL A cI cQ cl st go hi ma ct tc st (fillN co (fun j => nI j) 16) (fillN ap (fun _ => 0) 16) tr ac nx) H := hP1
  have hD : va_D V (hfL A cI cQ cl st go hi ma ct tc st (fillN co (fun j => nI j) 16) (fillN ap (fun _ => 0) 16) tr ac nx) := hf_weak hD1 hFc
  clear hP1 hD1 hFc
  refine lv_aload_n hx hb dX3_twins_11 rfl (lv_at hl 0 rfl) ?_
  refine lv_aload_n hx hb dX3_twins_12 rfl (lv_at hl 0 rfl) ?_
  refine va_get (D := (dC, dI)) (ci := 3) (v := .int st) (C := RX3) (T := TX3) (N := 9) hx hb hts hinX3 hown hK hP 0 rfl rfl 5 (by decide) (hts _ (List.mem_of_getElem? (i := 4) rfl)) (fun _ h9 => h9) rfl dX3_twins_13 ?_
  refine lv_iconst (v := 0) hx hb dX3_twins_16 (by decide) ?_
  have hFc := hf_free (σ := ((cl, st, go, hi, ma), (ct, tc), (st, fillN co (fun j => nI j) 16, fillN ap (fun _ => 0) 16), tr, ac, nx)) hD hS hA
  refine va_callv (va_runV (As := [.int st, .int (nI 0)]) (rest := []) ⟨hx, hb, hml, hown, hts⟩ (c_X3_look l dC dI A cI cQ y 3 ((cl, st, go, hi, ma), (ct, tc), (st, fillN co (fun j => nI j) 16, fillN ap (fun _ => 0) 16), tr, ac, nx) H.size 0 st (fun j => j) rfl (fun j hj => ⟨show fillN co (fun j => nI j) 16 (16 * 0 + j) = nI j by rw [show 16 * 0 + j = j by omega]; exact fillN_lt _ _ hj, hj⟩) hy1) (cwV 2 hts gX3_twins_X3_look rfl rfl rfl (by decide +kernel) ⟨Nat.le_of_ble_eq_true rfl, Nat.le_of_ble_eq_true rfl⟩) ⟨bl_F, va_recv hK hP (ci := 3) (q0 := 0) rfl rfl, fun U hU hW => ⟨rfl, by rw [hU], by rw [hU]; exact hP, hX.warm hW, hf_any hD⟩⟩ rfl rfl hl.1 rfl (lv_room (Nat.le_of_ble_eq_true rfl)) dX3_twins_17 ⟨Nat.zero_le _, Nat.zero_le _⟩) hS (fun q _ h => hFc q h) hFc (fun u t H locs ht hvm hw hB hz1 hk1 hS => ?_)
  obtain ⟨hP1, hD1⟩ := hB
  rw [ht] at hP1
  obtain ⟨co3, rfl, hco3⟩ := hw
  have hP : va_P (dC, dI) vwCl (hfL A cI cQ cl st go hi ma ct tc st co3 (lkS ((cl, st, go, hi, ma), (ct, tc), (be, co, ap), tr, ac, nx) y 3 st (fun j => j) (fillN ap (fun _ => 0) 16)) tr ac nx) H := hP1
  have hD : va_D V (hfL A cI cQ cl st go hi ma ct tc st co3 (lkS ((cl, st, go, hi, ma), (ct, tc), (be, co, ap), tr, ac, nx) y 3 st (fun j => j) (fillN ap (fun _ => 0) 16)) tr ac nx) := hf_weak hD1 hFc
  clear hP1 hD1 hFc
  refine lv_aload_n hx hb dX3_twins_20 rfl (lv_at hl 0 rfl) ?_
  refine va_get (D := (dC, dI)) (ci := 3) (v := .ref (A 4)) (C := RX3) (T := TX3) (N := 9) hx hb hts hinX3 hown hK hP 0 rfl rfl 2 (by decide) (hts _ (List.mem_of_getElem? (i := 3) rfl)) (fun _ h9 => h9) rfl dX3_twins_21 ?_
  refine vp_callSi (W.runV (As := []) (rest := []) ⟨hx, hb, hml, hown, hts⟩ (c_X1_firstAlike l dC dI A cI cQ ((cl, st, go, hi, ma), (ct, tc), (st, co3, (lkS ((cl, st, go, hi, ma), (ct, tc), (be, co, ap), tr, ac, nx) y 3 st (fun j => j) (fillN ap (fun _ => 0) 16))), tr, ac, nx)) (cwV 0 hts gX3_twins_X1_firstAlike rfl rfl rfl (by decide +kernel) ⟨Nat.le_of_ble_eq_true rfl, Nat.le_of_ble_eq_true rfl⟩) ⟨bl_P, va_recv hK hP (ci := 1) (q0 := 4) rfl rfl, fun U hU hW => ⟨rfl, by rw [hU]; exact hP, hX.warm hW⟩⟩ rfl rfl hl.1 rfl (lv_room (Nat.le_of_ble_eq_true rfl)) dX3_twins_24 ⟨Nat.zero_le _, Nat.zero_le _⟩) (fun r er => ?_)
  obtain rfl : r = o2i ((List.range 256).find? (twP st (lkS ((cl, st, go, hi, ma), (ct, tc), (be, co, ap), tr, ac, nx) y 3 st (fun j => j) (fillN ap (fun _ => 0) 16)))) := er
  refine lv_istore_n (lv' := [(1, .int (o2i ((List.range 256).find? (twP st (lkS ((cl, st, go, hi, ma), (ct, tc), (be, co, ap), tr, ac, nx) y 3 st (fun j => j) (fillN ap (fun _ => 0) 16)))))), (0, .ref (A 0))]) hx hb dX3_twins_27 rfl hl (by decide) rfl (fun ls hl => ?_)
  refine lv_iload_n hx hb dX3_twins_28 rfl (lv_at hl 0 rfl) ?_
  refine lv_iconst (v := (-1)) hx hb dX3_twins_29 (by decide) ?_
  refine lv_icmp_ne (tgt := 43) hx hb dX3_twins_30 (by decide) (fun c30_0 => ?_) (fun c30_0 => ?_)
  · exact absurd (by rw [h]; rfl) c30_0
  · skip
    obtain ⟨sa, hsa⟩ := hX.2.2 (196, "all states can be told apart") (List.mem_of_getElem? (i := 20) rfl)
    exact xn_throwS (A := V) (cls := nNS) (text := "all states can be told apart") (up := "java/lang/RuntimeException") (r := ["java/lang/Exception"]) hx hb hlt hown (by decide +kernel) (by decide +kernel) (hts _ (List.mem_of_getElem? (i := 1) rfl)) (hts _ (List.mem_of_getElem? (i := 2) rfl)) hsa (vx_hat (fun w h => hts w (List.mem_cons_of_mem _ (List.mem_append_right _ h))) xbNS (hX.xb _)) goNS hH.1 hH.2.1 hS (hl.1.trans hml.symm) dX3_twins_33 dX3_twins_36 dX3_twins_37 dX3_twins_39 dX3_twins_42 (fun x hx => (hnt x hx).elim) (show 2 + 3 < 30 by omega) (show 0 + (13 * (2 + 1) + 43) ≤ 700 by decide) (show 0 + 1 ≤ 1 by decide) (show 0 + 6 ≤ 6 by decide) hlocks (fun t _ hz hk => ⟨((cl, st, go, hi, ma), (ct, tc), (st, co3, (lkS ((cl, st, go, hi, ma), (ct, tc), (be, co, ap), tr, ac, nx) y 3 st (fun j => j) (fillN ap (fun _ => 0) 16))), tr, ac, nx), ⟨co3, rfl⟩, ⟨rfl, hP.kept (fun k q h9 => hk q.1 (hP k q h9).lt), hD⟩, Nat.le_trans hS.1 hz, fun q hq hnq => by rw [hk q (Nat.lt_of_lt_of_le hq hS.1)]; exact hS.2.1 q hq hnq⟩) hS.2.2 (show 0 + 1 ≤ 1 by decide) (show 0 + 6 ≤ 6 by decide)
